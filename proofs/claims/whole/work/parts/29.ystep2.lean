/-! Y: one step -/
section YW_1
variable {Yquiet Yfuel YscrLen YinpLen YhasTab YnCmd YoutLen YpatLen YholdLen YlinesRead YstepsUsed Ytflag YnAddr Ya1K Ya1V Ya2K Ya2V Ycc YlabS YlabL YsRe YsRep YadK YadV Yneg YsG YicN Yna YanS YanE YmJ YrLen : Int32} {Yscr Yinp YcmdPos Yout Ypat Yhold Yactive Yact Yic Yie YaC YaAny YaSt Yrch Ynx Yrb : Nat → Int32}
def rn_y (r : Int32) (k : Nat) : Int32 := if r = -1 then nI k else if r = -2 then -2 else -10 - r
theorem ym_nextLine {I k o n m q : Nat} {Mhold Mac : Nat → Int32} {Mh Mst : Nat} {Mt : Int32} {post : Int32 → SY → Prop} (hI : I ≤ 128) (ho : o ≤ 256) (hn : n ≤ 64) (hl : ln_I Yinp I m q)
    (h : ∀ r out' o' pat' n' m' q', rn_N Yinp I Yquiet (Yout, o, Ypat, n, Mhold, Mh, m, q, Mst, Mt, Mac) = (r, (out', o', pat', n', Mhold, Mh, m', q', Mst, Mt, Mac)) → post (rn_y r (k + 1)) (Yquiet, Yfuel, YscrLen, nI I, YhasTab, YnCmd, nI o', nI n', YholdLen, nI m', YstepsUsed, Ytflag, YnAddr, Ya1K, Ya1V, Ya2K, Ya2V, Ycc, YlabS, YlabL, YsRe, YsRep, YadK, YadV, Yneg, YsG, YicN, Yna, YanS, YanE, YmJ, YrLen, Yscr, Yinp, YcmdPos, out', pat', Yhold, Yactive, Yact, Yic, Yie, YaC, YaAny, YaSt, Yrch, Ynx, Yrb)) :
    wpY_nextLine post (Yquiet, Yfuel, YscrLen, nI I, YhasTab, YnCmd, nI o, nI n, YholdLen, nI m, YstepsUsed, Ytflag, YnAddr, Ya1K, Ya1V, Ya2K, Ya2V, Ycc, YlabS, YlabL, YsRe, YsRep, YadK, YadV, Yneg, YsG, YicN, Yna, YanS, YanE, YmJ, YrLen, Yscr, Yinp, YcmdPos, Yout, Ypat, Yhold, Yactive, Yact, Yic, Yie, YaC, YaAny, YaSt, Yrch, Ynx, Yrb) (nI k) := by
  have hm := ln_le hl
  have hkl := ln_kle Yinp I
  have hlt := ln_lt hl
  unfold rn_N at h
  dsimp only at h
  unfold wpY_nextLine
  refine ym_lineCount hI ?_
  refine pk_le (ln_k Yinp I) m (fun w => ?_) (fun w => ?_)
  · rw [if_pos (show I ≤ q by omega)] at h
    refine br_c (fun q0 => ?_) (fun q0 => ?_)
    · rw [if_pos q0] at h
      unfold rn_print at h
      dsimp only at h
      refine ym_print ho hn (fun y => br_f (by decide) ?_) (fun y => br_t rfl ?_)
      · rw [if_neg y] at h
        exact h 0 _ _ _ _ _ _ rfl
      · rw [if_pos y] at h
        exact h 3 _ _ _ _ _ _ rfl
    · rw [if_neg q0] at h
      exact h 0 _ _ _ _ _ _ rfl
  · have hq : q < I := by omega
    have he := sc_facts (P := pb_n Yinp) (L := I) (q := q) (by omega)
    have he2 : ln_e Yinp I q ≤ I := he.2.1
    have he1 : q ≤ ln_e Yinp I q := he.1
    rw [if_neg (show ¬ I ≤ q by omega)] at h
    rw [nI_1 m]
    refine ym_lineLen hI hl hq ?_
    refine pk_le (n + 1 + (ln_e Yinp I q - q)) 64 (fun y => ?_) (fun y => ?_) (hx := by rw [nI_1, nI_add])
    · rw [if_neg (by omega)] at h
      refine ym_lineStart hI hl hq ⟨pk_in n 64 (by omega), nm_e ⟨ln_e Yinp I q - q + 1, ?_⟩⟩
      rw [nI_clamp (by omega)]
      have loop : ∀ f x, ln_e Yinp I q - q - x < f → x ≤ ln_e Yinp I q - q → wY_nextLine_63 post (nI k) (nI (ln_e Yinp I q - q)) (nI q) Yquiet Yfuel YscrLen (nI I) YhasTab YnCmd (nI o) (nI n) YholdLen (nI m) YstepsUsed Ytflag YnAddr Ya1K Ya1V Ya2K Ya2V Ycc YlabS YlabL YsRe YsRep YadK YadV Yneg YsG YicN Yna YanS YanE YmJ YrLen f (nI x) Yscr Yinp YcmdPos Yout (cp_y Yinp q (upd Ypat n 10) (n + 1) x) Yhold Yactive Yact Yic Yie YaC YaAny YaSt Yrch Ynx Yrb := by
        intro f
        induction f with
        | zero => intro x h; exact absurd h (Nat.not_lt_zero _)
        | succ f ih =>
        intro x hf hx
        refine pk_le (ln_e Yinp I q - q) x (fun z => ?_) (fun z => ?_)
        · have e : x = ln_e Yinp I q - q := by omega
          rw [e, cp_u _ _ _ _ _ _ _ (by omega)]
          refine nm_r (show nI n + 1 + nI (ln_e Yinp I q - q) = nI (n + 1 + (ln_e Yinp I q - q)) by rw [nI_1, nI_add]) (nm_r (nI_1 m) ?_)
          rw [nI_1]
          exact h (-1) _ _ _ _ _ _ rfl
        · rw [show nI q + nI x = nI (q + x) from nI_add q x, show nI n + 1 + nI x = nI (n + 1 + x) by rw [nI_1, nI_add]]
          refine br_f (nI_ge (by omega) (by omega)) ⟨vp_in_nI (by omega) (by omega), vp_in_nI (by omega) (by omega), nm_e (nm_r (nI_1 x) ?_)⟩
          rw [nI_clamp (by omega), nI_clamp (by omega), cp_s]
          exact ih (x + 1) (by omega) (by omega)
      have := loop (ln_e Yinp I q - q + 1) 0 (by omega) (by omega)
      rw [cp_0] at this
      exact this
    · rw [if_pos y] at h
      exact h 3 _ _ _ _ _ _ rfl
theorem ym_539 {L n a t : Nat} {post : Int32 → SY → Prop} (hL : L ≤ 128) (hc : ch_ok Yscr L) (hG : cq_G Yscr L n) (hn : n ≤ 16) (hcp : ∀ j, j < n → YcmdPos j = nI (cq_Q Yscr L j)) (ha : a < n) (ht : t < n) (h58 : lb_c Yscr L t = 58) (hq : lb_q Yscr L a t) (hno : ∀ j, j < t → lb_c Yscr L j = 58 → ¬ lb_q Yscr L a j)
    (h : ∀ YnAddr1 Ya1K1 Ya1V1 Ya2K1 Ya2V1 Ycc1 YlabS1 YlabL1 YsRe1 YsRep1 YadK1 YadV1 Yneg1 YsG1 YicN1 Yna1 YanS1 YanE1 YmJ1 YrLen1 Yic1 Yie1 YaC1 YaAny1 YaSt1 Yrch1 Ynx1 Yrb1, post (nI t) (Yquiet, Yfuel, nI L, YinpLen, YhasTab, nI n, YoutLen, YpatLen, YholdLen, YlinesRead, YstepsUsed, Ytflag, YnAddr1, Ya1K1, Ya1V1, Ya2K1, Ya2V1, Ycc1, YlabS1, YlabL1, YsRe1, YsRep1, YadK1, YadV1, Yneg1, YsG1, YicN1, Yna1, YanS1, YanE1, YmJ1, YrLen1, Yscr, Yinp, YcmdPos, Yout, Ypat, Yhold, Yactive, Yact, Yic1, Yie1, YaC1, YaAny1, YaSt1, Yrch1, Ynx1, Yrb1)) : ∀ f j, t - j < f → j ≤ t → ∀ YnAddr1 Ya1K1 Ya1V1 Ya2K1 Ya2V1 Ycc1 YlabS1 YlabL1 YsRe1 YsRep1 YadK1 YadV1 Yneg1 YsG1 YicN1 Yna1 YanS1 YanE1 YmJ1 YrLen1 Yic1 Yie1 YaC1 YaAny1 YaSt1 Yrch1 Ynx1 Yrb1, wY_step_539 post (nI (lb_s Yscr L a)) (nI (lb_l Yscr L a)) f (nI j) Yquiet Yfuel (nI L) YinpLen YhasTab (nI n) YoutLen YpatLen YholdLen YlinesRead YstepsUsed Ytflag YnAddr1 Ya1K1 Ya1V1 Ya2K1 Ya2V1 Ycc1 YlabS1 YlabL1 YsRe1 YsRep1 YadK1 YadV1 Yneg1 YsG1 YicN1 Yna1 YanS1 YanE1 YmJ1 YrLen1 Yscr Yinp YcmdPos Yout Ypat Yhold Yactive Yact Yic1 Yie1 YaC1 YaAny1 YaSt1 Yrch1 Ynx1 Yrb1 := by
  intro f
  induction f with
  | zero => intro j h; exact absurd h (Nat.not_lt_zero _)
  | succ f ih =>
  intro j hf hj YnAddr1 Ya1K1 Ya1V1 Ya2K1 Ya2V1 Ycc1 YlabS1 YlabL1 YsRe1 YsRep1 YadK1 YadV1 Yneg1 YsG1 YicN1 Yna1 YanS1 YanE1 YmJ1 YrLen1 Yic1 Yie1 YaC1 YaAny1 YaSt1 Yrch1 Ynx1 Yrb1
  refine br_f (nI_ge (by omega) (by omega)) (br_f (nI_ge (b := 16) (by omega) (by decide)) ⟨pk_in j 16 (by omega), ?_⟩)
  obtain ⟨g1, g2⟩ := hG j (by omega)
  rw [nI_clamp (by omega), hcp j (by omega)]
  refine ym_pc hL hc (Nat.le_of_lt g1) g2 ?_
  intro YnAddr2 Ya1K2 Ya1V2 Ya2K2 Ya2V2 Ycc2 YlabS2 YlabL2 YsRe2 YsRep2 YadK2 YadV2 Yneg2 YsG2 YicN2 Yna2 YanS2 YanE2 YmJ2 YrLen2 Yic2 Yie2 YaC2 YaAny2 YaSt2 Yrch2 Ynx2 Yrb2 hH
  obtain ⟨y1, y2, y3, y4, y5, y6, y7, y8, y9⟩ := hH
  subst y5 y6 y7
  have fa := lb_f hG ha
  have fj := lb_f hG (show j < n by omega)
  have nxt : j < t → wY_step_539 post (nI (lb_s Yscr L a)) (nI (lb_l Yscr L a)) f (nI (j + 1)) Yquiet Yfuel (nI L) YinpLen YhasTab (nI n) YoutLen YpatLen YholdLen YlinesRead YstepsUsed Ytflag YnAddr2 Ya1K2 Ya1V2 Ya2K2 Ya2V2 ((cq_D Yscr L j).2.1) (nI (cq_D Yscr L j).2.2.1.1.1) (nI (cq_D Yscr L j).2.2.1.1.2) YsRe2 YsRep2 YadK2 YadV2 Yneg2 YsG2 YicN2 Yna2 YanS2 YanE2 YmJ2 YrLen2 Yscr Yinp YcmdPos Yout Ypat Yhold Yactive Yact Yic2 Yie2 YaC2 YaAny2 YaSt2 Yrch2 Ynx2 Yrb2 := fun hlt => ih (j + 1) (by omega) (by omega) _ _ _ _ _ _ _ _ _ _ _ _ _ _ _ _ _ _ _ _ _ _ _ _ _ _ _ _
  refine br_c (fun c => ?_) (fun c => nm_r (nI_1 j) (nxt ?_))
  · refine ym_labEq hL fa.1 fj.1 (fun y => br_f (by decide) ?_) (fun y => br_t rfl (nm_r (nI_1 j) (nxt ?_)))
    · have e : j = t := by
        rcases Nat.lt_or_ge j t with z | z
        · exact absurd y (hno j z c)
        · omega
      rw [e]
      exact h _ _ _ _ _ _ _ _ _ _ _ _ _ _ _ _ _ _ _ _ _ _ _ _ _ _ _ _
    · rcases Nat.lt_or_ge j t with z | z
      · exact z
      · have e : j = t := by omega
        rw [e] at y; exact absurd hq y
  · rcases Nat.lt_or_ge j t with z | z
    · exact z
    · have e : j = t := by omega
      rw [e] at c; exact absurd h58 c
theorem ym_471 {k : Nat} {post : Int32 → SY → Prop} (n98 : ¬ Ycc = 98) (n116 : ¬ Ycc = 116) (h : post (nI (k + 1)) (Yquiet, Yfuel, YscrLen, YinpLen, YhasTab, YnCmd, YoutLen, YpatLen, YholdLen, YlinesRead, YstepsUsed, Ytflag, YnAddr, Ya1K, Ya1V, Ya2K, Ya2V, Ycc, YlabS, YlabL, YsRe, YsRep, YadK, YadV, Yneg, YsG, YicN, Yna, YanS, YanE, YmJ, YrLen, Yscr, Yinp, YcmdPos, Yout, Ypat, Yhold, Yactive, Yact, Yic, Yie, YaC, YaAny, YaSt, Yrch, Ynx, Yrb)) : wY_step_471 post (nI k) Yquiet Yfuel YscrLen YinpLen YhasTab YnCmd YoutLen YpatLen YholdLen YlinesRead YstepsUsed Ytflag YnAddr Ya1K Ya1V Ya2K Ya2V Ycc YlabS YlabL YsRe YsRep YadK YadV Yneg YsG YicN Yna YanS YanE YmJ YrLen Yscr Yinp YcmdPos Yout Ypat Yhold Yactive Yact Yic Yie YaC YaAny YaSt Yrch Ynx Yrb := by
  refine br_f n98 (br_f n116 ?_)
  rw [nI_1]; exact h
theorem ym_404 {k : Nat} {post : Int32 → SY → Prop} (n120 : ¬ Ycc = 120) (n98 : ¬ Ycc = 98) (n116 : ¬ Ycc = 116) (h : post (nI (k + 1)) (Yquiet, Yfuel, YscrLen, YinpLen, YhasTab, YnCmd, YoutLen, YpatLen, YholdLen, YlinesRead, YstepsUsed, Ytflag, YnAddr, Ya1K, Ya1V, Ya2K, Ya2V, Ycc, YlabS, YlabL, YsRe, YsRep, YadK, YadV, Yneg, YsG, YicN, Yna, YanS, YanE, YmJ, YrLen, Yscr, Yinp, YcmdPos, Yout, Ypat, Yhold, Yactive, Yact, Yic, Yie, YaC, YaAny, YaSt, Yrch, Ynx, Yrb)) : wY_step_404 post (nI k) Yquiet Yfuel YscrLen YinpLen YhasTab YnCmd YoutLen YpatLen YholdLen YlinesRead YstepsUsed Ytflag YnAddr Ya1K Ya1V Ya2K Ya2V Ycc YlabS YlabL YsRe YsRep YadK YadV Yneg YsG YicN Yna YanS YanE YmJ YrLen Yscr Yinp YcmdPos Yout Ypat Yhold Yactive Yact Yic Yie YaC YaAny YaSt Yrch Ynx Yrb := br_f n120 (ym_471 n98 n116 h)
theorem ym_315 {k : Nat} {post : Int32 → SY → Prop} (n71 : ¬ Ycc = 71) (n120 : ¬ Ycc = 120) (n98 : ¬ Ycc = 98) (n116 : ¬ Ycc = 116) (h : post (nI (k + 1)) (Yquiet, Yfuel, YscrLen, YinpLen, YhasTab, YnCmd, YoutLen, YpatLen, YholdLen, YlinesRead, YstepsUsed, Ytflag, YnAddr, Ya1K, Ya1V, Ya2K, Ya2V, Ycc, YlabS, YlabL, YsRe, YsRep, YadK, YadV, Yneg, YsG, YicN, Yna, YanS, YanE, YmJ, YrLen, Yscr, Yinp, YcmdPos, Yout, Ypat, Yhold, Yactive, Yact, Yic, Yie, YaC, YaAny, YaSt, Yrch, Ynx, Yrb)) : wY_step_315 post (nI k) Yquiet Yfuel YscrLen YinpLen YhasTab YnCmd YoutLen YpatLen YholdLen YlinesRead YstepsUsed Ytflag YnAddr Ya1K Ya1V Ya2K Ya2V Ycc YlabS YlabL YsRe YsRep YadK YadV Yneg YsG YicN Yna YanS YanE YmJ YrLen Yscr Yinp YcmdPos Yout Ypat Yhold Yactive Yact Yic Yie YaC YaAny YaSt Yrch Ynx Yrb := br_f n71 (ym_404 n120 n98 n116 h)
theorem ym_226 {k : Nat} {post : Int32 → SY → Prop} (n72 : ¬ Ycc = 72) (n71 : ¬ Ycc = 71) (n120 : ¬ Ycc = 120) (n98 : ¬ Ycc = 98) (n116 : ¬ Ycc = 116) (h : post (nI (k + 1)) (Yquiet, Yfuel, YscrLen, YinpLen, YhasTab, YnCmd, YoutLen, YpatLen, YholdLen, YlinesRead, YstepsUsed, Ytflag, YnAddr, Ya1K, Ya1V, Ya2K, Ya2V, Ycc, YlabS, YlabL, YsRe, YsRep, YadK, YadV, Yneg, YsG, YicN, Yna, YanS, YanE, YmJ, YrLen, Yscr, Yinp, YcmdPos, Yout, Ypat, Yhold, Yactive, Yact, Yic, Yie, YaC, YaAny, YaSt, Yrch, Ynx, Yrb)) : wY_step_226 post (nI k) Yquiet Yfuel YscrLen YinpLen YhasTab YnCmd YoutLen YpatLen YholdLen YlinesRead YstepsUsed Ytflag YnAddr Ya1K Ya1V Ya2K Ya2V Ycc YlabS YlabL YsRe YsRep YadK YadV Yneg YsG YicN Yna YanS YanE YmJ YrLen Yscr Yinp YcmdPos Yout Ypat Yhold Yactive Yact Yic Yie YaC YaAny YaSt Yrch Ynx Yrb := br_f n72 (ym_315 n71 n120 n98 n116 h)
theorem ym_181 {k : Nat} {post : Int32 → SY → Prop} (n103 : ¬ Ycc = 103) (n72 : ¬ Ycc = 72) (n71 : ¬ Ycc = 71) (n120 : ¬ Ycc = 120) (n98 : ¬ Ycc = 98) (n116 : ¬ Ycc = 116) (h : post (nI (k + 1)) (Yquiet, Yfuel, YscrLen, YinpLen, YhasTab, YnCmd, YoutLen, YpatLen, YholdLen, YlinesRead, YstepsUsed, Ytflag, YnAddr, Ya1K, Ya1V, Ya2K, Ya2V, Ycc, YlabS, YlabL, YsRe, YsRep, YadK, YadV, Yneg, YsG, YicN, Yna, YanS, YanE, YmJ, YrLen, Yscr, Yinp, YcmdPos, Yout, Ypat, Yhold, Yactive, Yact, Yic, Yie, YaC, YaAny, YaSt, Yrch, Ynx, Yrb)) : wY_step_181 post (nI k) Yquiet Yfuel YscrLen YinpLen YhasTab YnCmd YoutLen YpatLen YholdLen YlinesRead YstepsUsed Ytflag YnAddr Ya1K Ya1V Ya2K Ya2V Ycc YlabS YlabL YsRe YsRep YadK YadV Yneg YsG YicN Yna YanS YanE YmJ YrLen Yscr Yinp YcmdPos Yout Ypat Yhold Yactive Yact Yic Yie YaC YaAny YaSt Yrch Ynx Yrb := br_f n103 (ym_226 n72 n71 n120 n98 n116 h)
theorem ym_147 {k n : Nat} {post : Int32 → SY → Prop} (hn : n ≤ 64) (h : wY_step_181 post (nI k) Yquiet Yfuel YscrLen YinpLen YhasTab YnCmd YoutLen (nI n) (nI n) YlinesRead YstepsUsed Ytflag YnAddr Ya1K Ya1V Ya2K Ya2V Ycc YlabS YlabL YsRe YsRep YadK YadV Yneg YsG YicN Yna YanS YanE YmJ YrLen Yscr Yinp YcmdPos Yout Ypat (cp_y Ypat 0 Yhold 0 n) Yactive Yact Yic Yie YaC YaAny YaSt Yrch Ynx Yrb) : ∃ f, wY_step_147 post (nI k) Yquiet Yfuel YscrLen YinpLen YhasTab YnCmd YoutLen (nI n) YholdLen YlinesRead YstepsUsed Ytflag YnAddr Ya1K Ya1V Ya2K Ya2V Ycc YlabS YlabL YsRe YsRep YadK YadV Yneg YsG YicN Yna YanS YanE YmJ YrLen f 0 Yscr Yinp YcmdPos Yout Ypat Yhold Yactive Yact Yic Yie YaC YaAny YaSt Yrch Ynx Yrb := by
  have loop : ∀ f x, n - x < f → x ≤ n → wY_step_147 post (nI k) Yquiet Yfuel YscrLen YinpLen YhasTab YnCmd YoutLen (nI n) YholdLen YlinesRead YstepsUsed Ytflag YnAddr Ya1K Ya1V Ya2K Ya2V Ycc YlabS YlabL YsRe YsRep YadK YadV Yneg YsG YicN Yna YanS YanE YmJ YrLen f (nI x) Yscr Yinp YcmdPos Yout Ypat (cp_y Ypat 0 Yhold 0 x) Yactive Yact Yic Yie YaC YaAny YaSt Yrch Ynx Yrb := by
    intro f
    induction f with
    | zero => intro x h; exact absurd h (Nat.not_lt_zero _)
    | succ f ih =>
    intro x hf hx
    refine pk_le n x (fun w => ?_) (fun w => ⟨vp_in_nI (by omega) (by omega), vp_in_nI (by omega) (by omega), nm_e (nm_r (nI_1 x) ?_)⟩)
    · rw [show x = n by omega]; exact h
    · rw [nI_clamp (by omega)]
      have e := cp_s Ypat 0 Yhold 0 x
      rw [Nat.zero_add] at e
      rw [e]
      exact ih (x + 1) (by omega) (by omega)
  have := loop (n + 1) 0 (by omega) (by omega)
  rw [cp_0] at this
  exact ⟨_, this⟩
theorem ym_192 {k n : Nat} {post : Int32 → SY → Prop} (hn : n ≤ 64) (h : wY_step_226 post (nI k) Yquiet Yfuel YscrLen YinpLen YhasTab YnCmd YoutLen (nI n) (nI n) YlinesRead YstepsUsed Ytflag YnAddr Ya1K Ya1V Ya2K Ya2V Ycc YlabS YlabL YsRe YsRep YadK YadV Yneg YsG YicN Yna YanS YanE YmJ YrLen Yscr Yinp YcmdPos Yout (cp_y Yhold 0 Ypat 0 n) Yhold Yactive Yact Yic Yie YaC YaAny YaSt Yrch Ynx Yrb) : ∃ f, wY_step_192 post (nI k) Yquiet Yfuel YscrLen YinpLen YhasTab YnCmd YoutLen YpatLen (nI n) YlinesRead YstepsUsed Ytflag YnAddr Ya1K Ya1V Ya2K Ya2V Ycc YlabS YlabL YsRe YsRep YadK YadV Yneg YsG YicN Yna YanS YanE YmJ YrLen f 0 Yscr Yinp YcmdPos Yout Ypat Yhold Yactive Yact Yic Yie YaC YaAny YaSt Yrch Ynx Yrb := by
  have loop : ∀ f x, n - x < f → x ≤ n → wY_step_192 post (nI k) Yquiet Yfuel YscrLen YinpLen YhasTab YnCmd YoutLen YpatLen (nI n) YlinesRead YstepsUsed Ytflag YnAddr Ya1K Ya1V Ya2K Ya2V Ycc YlabS YlabL YsRe YsRep YadK YadV Yneg YsG YicN Yna YanS YanE YmJ YrLen f (nI x) Yscr Yinp YcmdPos Yout (cp_y Yhold 0 Ypat 0 x) Yhold Yactive Yact Yic Yie YaC YaAny YaSt Yrch Ynx Yrb := by
    intro f
    induction f with
    | zero => intro x h; exact absurd h (Nat.not_lt_zero _)
    | succ f ih =>
    intro x hf hx
    refine pk_le n x (fun w => ?_) (fun w => ⟨vp_in_nI (by omega) (by omega), vp_in_nI (by omega) (by omega), nm_e (nm_r (nI_1 x) ?_)⟩)
    · rw [show x = n by omega]; exact h
    · rw [nI_clamp (by omega)]
      have e := cp_s Yhold 0 Ypat 0 x
      rw [Nat.zero_add] at e
      rw [e]
      exact ih (x + 1) (by omega) (by omega)
  have := loop (n + 1) 0 (by omega) (by omega)
  rw [cp_0] at this
  exact ⟨_, this⟩
theorem ym_267 {k n p : Nat} {post : Int32 → SY → Prop} (hp : p + 1 + n ≤ 64) (h : wY_step_315 post (nI k) Yquiet Yfuel YscrLen YinpLen YhasTab YnCmd YoutLen (nI n) (nI (p + 1 + n)) YlinesRead YstepsUsed Ytflag YnAddr Ya1K Ya1V Ya2K Ya2V Ycc YlabS YlabL YsRe YsRep YadK YadV Yneg YsG YicN Yna YanS YanE YmJ YrLen Yscr Yinp YcmdPos Yout Ypat (cp_y Ypat 0 Yhold (p + 1) n) Yactive Yact Yic Yie YaC YaAny YaSt Yrch Ynx Yrb) : ∃ f, wY_step_267 post (nI k) Yquiet Yfuel YscrLen YinpLen YhasTab YnCmd YoutLen (nI n) (nI p) YlinesRead YstepsUsed Ytflag YnAddr Ya1K Ya1V Ya2K Ya2V Ycc YlabS YlabL YsRe YsRep YadK YadV Yneg YsG YicN Yna YanS YanE YmJ YrLen f 0 Yscr Yinp YcmdPos Yout Ypat Yhold Yactive Yact Yic Yie YaC YaAny YaSt Yrch Ynx Yrb := by
  have loop : ∀ f x, n - x < f → x ≤ n → wY_step_267 post (nI k) Yquiet Yfuel YscrLen YinpLen YhasTab YnCmd YoutLen (nI n) (nI p) YlinesRead YstepsUsed Ytflag YnAddr Ya1K Ya1V Ya2K Ya2V Ycc YlabS YlabL YsRe YsRep YadK YadV Yneg YsG YicN Yna YanS YanE YmJ YrLen f (nI x) Yscr Yinp YcmdPos Yout Ypat (cp_y Ypat 0 Yhold (p + 1) x) Yactive Yact Yic Yie YaC YaAny YaSt Yrch Ynx Yrb := by
    intro f
    induction f with
    | zero => intro x h; exact absurd h (Nat.not_lt_zero _)
    | succ f ih =>
    intro x hf hx
    refine pk_le n x (fun w => nm_r (show nI p + 1 + nI n = nI (p + 1 + n) by rw [nI_1, nI_add]) ?_) (fun w => ⟨vp_in_nI (by omega) (by omega), ?_⟩)
    · rw [show x = n by omega]; exact h
    · have ee : nI p + 1 + nI x = nI (p + 1 + x) := by rw [nI_1, nI_add]
      rw [ee]
      refine ⟨vp_in_nI (by omega) (by omega), nm_e (nm_r (nI_1 x) ?_)⟩
      rw [nI_clamp (by omega), nI_clamp (by omega)]
      have e := cp_s Ypat 0 Yhold (p + 1) x
      rw [Nat.zero_add] at e
      rw [e]
      exact ih (x + 1) (by omega) (by omega)
  have := loop (n + 1) 0 (by omega) (by omega)
  rw [cp_0] at this
  exact ⟨_, this⟩
theorem ym_356 {k n p : Nat} {post : Int32 → SY → Prop} (hp : p + 1 + n ≤ 64) (h : wY_step_404 post (nI k) Yquiet Yfuel YscrLen YinpLen YhasTab YnCmd YoutLen (nI (p + 1 + n)) (nI n) YlinesRead YstepsUsed Ytflag YnAddr Ya1K Ya1V Ya2K Ya2V Ycc YlabS YlabL YsRe YsRep YadK YadV Yneg YsG YicN Yna YanS YanE YmJ YrLen Yscr Yinp YcmdPos Yout (cp_y Yhold 0 Ypat (p + 1) n) Yhold Yactive Yact Yic Yie YaC YaAny YaSt Yrch Ynx Yrb) : ∃ f, wY_step_356 post (nI k) Yquiet Yfuel YscrLen YinpLen YhasTab YnCmd YoutLen (nI p) (nI n) YlinesRead YstepsUsed Ytflag YnAddr Ya1K Ya1V Ya2K Ya2V Ycc YlabS YlabL YsRe YsRep YadK YadV Yneg YsG YicN Yna YanS YanE YmJ YrLen f 0 Yscr Yinp YcmdPos Yout Ypat Yhold Yactive Yact Yic Yie YaC YaAny YaSt Yrch Ynx Yrb := by
  have loop : ∀ f x, n - x < f → x ≤ n → wY_step_356 post (nI k) Yquiet Yfuel YscrLen YinpLen YhasTab YnCmd YoutLen (nI p) (nI n) YlinesRead YstepsUsed Ytflag YnAddr Ya1K Ya1V Ya2K Ya2V Ycc YlabS YlabL YsRe YsRep YadK YadV Yneg YsG YicN Yna YanS YanE YmJ YrLen f (nI x) Yscr Yinp YcmdPos Yout (cp_y Yhold 0 Ypat (p + 1) x) Yhold Yactive Yact Yic Yie YaC YaAny YaSt Yrch Ynx Yrb := by
    intro f
    induction f with
    | zero => intro x h; exact absurd h (Nat.not_lt_zero _)
    | succ f ih =>
    intro x hf hx
    refine pk_le n x (fun w => nm_r (show nI p + 1 + nI n = nI (p + 1 + n) by rw [nI_1, nI_add]) ?_) (fun w => ⟨vp_in_nI (by omega) (by omega), ?_⟩)
    · rw [show x = n by omega]; exact h
    · have ee : nI p + 1 + nI x = nI (p + 1 + x) := by rw [nI_1, nI_add]
      rw [ee]
      refine ⟨vp_in_nI (by omega) (by omega), nm_e (nm_r (nI_1 x) ?_)⟩
      rw [nI_clamp (by omega), nI_clamp (by omega)]
      have e := cp_s Yhold 0 Ypat (p + 1) x
      rw [Nat.zero_add] at e
      rw [e]
      exact ih (x + 1) (by omega) (by omega)
  have := loop (n + 1) 0 (by omega) (by omega)
  rw [cp_0] at this
  exact ⟨_, this⟩
theorem ym_415 {k : Nat} {post : Int32 → SY → Prop} (h : wY_step_471 post (nI k) Yquiet Yfuel YscrLen YinpLen YhasTab YnCmd YoutLen YholdLen YpatLen YlinesRead YstepsUsed Ytflag YnAddr Ya1K Ya1V Ya2K Ya2V Ycc YlabS YlabL YsRe YsRep YadK YadV Yneg YsG YicN Yna YanS YanE YmJ YrLen Yscr Yinp YcmdPos Yout (cp_y Yhold 0 Ypat 0 64) (cp_y Ypat 0 Yhold 0 64) Yactive Yact Yic Yie YaC YaAny YaSt Yrch Ynx Yrb) : ∃ f, wY_step_415 post (nI k) Yquiet Yfuel YscrLen YinpLen YhasTab YnCmd YoutLen YpatLen YholdLen YlinesRead YstepsUsed Ytflag YnAddr Ya1K Ya1V Ya2K Ya2V Ycc YlabS YlabL YsRe YsRep YadK YadV Yneg YsG YicN Yna YanS YanE YmJ YrLen f 0 Yscr Yinp YcmdPos Yout Ypat Yhold Yactive Yact Yic Yie YaC YaAny YaSt Yrch Ynx Yrb := by
  have loop : ∀ f x, 64 - x < f → x ≤ 64 → wY_step_415 post (nI k) Yquiet Yfuel YscrLen YinpLen YhasTab YnCmd YoutLen YpatLen YholdLen YlinesRead YstepsUsed Ytflag YnAddr Ya1K Ya1V Ya2K Ya2V Ycc YlabS YlabL YsRe YsRep YadK YadV Yneg YsG YicN Yna YanS YanE YmJ YrLen f (nI x) Yscr Yinp YcmdPos Yout (cp_y Yhold 0 Ypat 0 x) (cp_y Ypat 0 Yhold 0 x) Yactive Yact Yic Yie YaC YaAny YaSt Yrch Ynx Yrb := by
    intro f
    induction f with
    | zero => intro x h; exact absurd h (Nat.not_lt_zero _)
    | succ f ih =>
    intro x hf hx
    have vi : x < 64 → vp_in (nI x) 64 := fun w => vp_in_nI w (by omega)
    refine pk_le 64 x (fun w => ?_) (fun w => ⟨vi w, nm_e ⟨vi w, vi w, nm_e ⟨vi w, nm_e (nm_r (nI_1 x) ?_)⟩⟩⟩)
    · rw [show x = 64 by omega]; exact h
    · rw [nI_clamp (by omega)]
      have p1 : cp_y Yhold 0 Ypat 0 x x = Ypat x := by unfold cp_y; rw [if_neg (by omega)]
      have p2 : cp_y Ypat 0 Yhold 0 x x = Yhold x := by unfold cp_y; rw [if_neg (by omega)]
      have e := cp_s Yhold 0 Ypat 0 x
      have e' := cp_s Ypat 0 Yhold 0 x
      rw [Nat.zero_add] at e e'
      rw [p1, p2, e, e']
      exact ih (x + 1) (by omega) (by omega)
  have := loop 65 0 (by omega) (by omega)
  rw [cp_0, cp_0] at this
  exact ⟨_, this⟩
end YW_1
