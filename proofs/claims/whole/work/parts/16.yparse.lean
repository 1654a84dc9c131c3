/-! Y's parser: a regex, an address, a command -/
section YP_1
variable {Yquiet Yfuel YscrLen YinpLen YhasTab YnCmd YoutLen YpatLen YholdLen YlinesRead YstepsUsed Ytflag YnAddr Ya1K Ya1V Ya2K Ya2V Ycc YlabS YlabL YsRe YsRep YadK YadV Yneg YsG YicN Yna YanS YanE YmJ YrLen : Int32} {Yscr Yinp YcmdPos Yout Ypat Yhold Yactive Yact Yic Yie YaC YaAny YaSt Yrch Ynx Yrb : Nat → Int32}
theorem ym_build {L q n : Nat} {post : Int32 → SY → Prop} (hL : L ≤ 128) (hc : ch_ok Yscr L) (htx : tx_n Yscr L q = some n) (hic : ∀ j, j < n → Yic j = tx_c Yscr (tx_p Yscr q j) ∧ Yie j = tx_e Yscr (tx_p Yscr q j))
    (hg : ∀ g aC aAny aSt, rg_x Yscr L q = some g → ya_H aC aAny aSt (g.2.2.2.1, g.2.2.2.2.1, g.2.2.2.2.2) → post 1 (Yquiet, Yfuel, nI L, YinpLen, YhasTab, YnCmd, YoutLen, YpatLen, YholdLen, YlinesRead, YstepsUsed, Ytflag, YnAddr, Ya1K, Ya1V, Ya2K, Ya2V, Ycc, YlabS, YlabL, YsRe, YsRep, YadK, YadV, Yneg, YsG, nI n, nI g.2.2.2.1, nI g.2.1, nI g.2.2.1, YmJ, YrLen, Yscr, Yinp, YcmdPos, Yout, Ypat, Yhold, Yactive, Yact, Yic, Yie, aC, aAny, aSt, Yrch, Ynx, Yrb))
    (hb : rg_x Yscr L q = none → ∀ na anS anE aC aAny aSt, post 0 (Yquiet, Yfuel, nI L, YinpLen, YhasTab, YnCmd, YoutLen, YpatLen, YholdLen, YlinesRead, YstepsUsed, Ytflag, YnAddr, Ya1K, Ya1V, Ya2K, Ya2V, Ycc, YlabS, YlabL, YsRe, YsRep, YadK, YadV, Yneg, YsG, nI n, na, anS, anE, YmJ, YrLen, Yscr, Yinp, YcmdPos, Yout, Ypat, Yhold, Yactive, Yact, Yic, Yie, aC, aAny, aSt, Yrch, Ynx, Yrb)) :
    wpY_buildRegex post (Yquiet, Yfuel, nI L, YinpLen, YhasTab, YnCmd, YoutLen, YpatLen, YholdLen, YlinesRead, YstepsUsed, Ytflag, YnAddr, Ya1K, Ya1V, Ya2K, Ya2V, Ycc, YlabS, YlabL, YsRe, YsRep, YadK, YadV, Yneg, YsG, nI n, Yna, YanS, YanE, YmJ, YrLen, Yscr, Yinp, YcmdPos, Yout, Ypat, Yhold, Yactive, Yact, Yic, Yie, YaC, YaAny, YaSt, Yrch, Ynx, Yrb) := by
  have hf := tx_facts n q htx
  have hpn := tx_p_ge Yscr q n
  unfold wpY_buildRegex
  refine pk_eq n 0 (fun h0 => hb (by unfold rg_x; rw [htx]; dsimp only; rw [if_pos h0]) _ _ _ _ _ _) (fun h0 => ?_)
  have hAB := rg_AB (s := Yscr) (q := q) (n := n) (by omega)
  have hA1 := rg_A1 Yscr q
  have hB1 := rg_B1 Yscr q n
  obtain ⟨c0, e0⟩ := hic 0 (by omega)
  obtain ⟨cn, en⟩ := hic (n - 1) (by omega)
  have run : wY_buildRegex_99 post (nI (n - rg_B Yscr q n)) Yquiet Yfuel (nI L) YinpLen YhasTab YnCmd YoutLen YpatLen YholdLen YlinesRead YstepsUsed Ytflag YnAddr Ya1K Ya1V Ya2K Ya2V Ycc YlabS YlabL YsRe YsRep YadK YadV Yneg YsG (nI n) (nI (rg_A Yscr q)) (nI (rg_B Yscr q n)) YmJ YrLen (n + 1) (nI (rg_A Yscr q + 0)) (nI 0) Yscr Yinp YcmdPos Yout Ypat Yhold Yactive Yact Yic Yie YaC YaAny YaSt Yrch Ynx Yrb :=
    ym_b99 hL hc htx (by omega) hic hg hb (n + 1) 0 _ _ _ (0, (fun _ => 0), (fun _ => 0)) (by omega) (by omega) rfl (fun i hi => absurd hi (by dsimp only; omega))
  have hs : nI n - 1 = nI (n - 1) := by
    obtain ⟨x, hx⟩ : ∃ x, n = x + 1 := ⟨n - 1, by omega⟩
    rw [hx]; exact nI_pred x
  have hv : vp_in (nI (n - 1)) 128 := vp_in_nI (by omega) (by omega)
  have h58 : wY_buildRegex_58 post (nI (rg_A Yscr q)) (nI n) Yquiet Yfuel (nI L) YinpLen YhasTab YnCmd YoutLen YpatLen YholdLen YlinesRead YstepsUsed Ytflag YnAddr Ya1K Ya1V Ya2K Ya2V Ycc YlabS YlabL YsRe YsRep YadK YadV Yneg YsG (nI n) 0 (nI (rg_A Yscr q)) 0 YmJ YrLen Yscr Yinp YcmdPos Yout Ypat Yhold Yactive Yact Yic Yie YaC YaAny YaSt Yrch Ynx Yrb := by
    unfold wY_buildRegex_58
    rw [hs]
    refine pk_lt (n - 1) (rg_A Yscr q) (fun w => ⟨n + 1, ?_⟩) (fun w => ⟨hv, ?_⟩)
    · have eB : rg_B Yscr q n = 0 := by omega
      rw [eB] at run
      exact run
    · rw [nI_clamp (by omega), cn, en]
      refine br_c (fun y0 => ⟨hv, br_c (fun y1 => nm_r (show nI n + (-1) = nI (n - rg_B Yscr q n) from ?_) ⟨n + 1, ?_⟩) (fun y1 => ⟨n + 1, ?_⟩)⟩) (fun y0 => ⟨n + 1, ?_⟩)
      · have eB : rg_B Yscr q n = 1 := by unfold rg_B; rw [if_pos ⟨y0, y1⟩]
        obtain ⟨x, hx⟩ : ∃ x, n = x + 1 := ⟨n - 1, by omega⟩
        rw [eB, hx]
        exact pk_m1 x
      · have eB : rg_B Yscr q n = 1 := by unfold rg_B; rw [if_pos ⟨y0, y1⟩]
        rw [eB] at run ⊢
        exact run
      · have eB : rg_B Yscr q n = 0 := by unfold rg_B; rw [if_neg (fun y => y1 y.2)]
        rw [eB] at run
        exact run
      · have eB : rg_B Yscr q n = 0 := by unfold rg_B; rw [if_neg (fun y => y0 y.1)]
        rw [eB] at run
        exact run
  rw [c0, e0]
  show (tx_e Yscr q = 0 → _) ∧ _
  refine br_c (fun y0 => br_c (fun y1 => ?_) (fun y1 => ?_)) (fun y0 => ?_)
  · have eA : rg_A Yscr q = 1 := by unfold rg_A; rw [if_pos ⟨y0, y1⟩]
    rw [eA] at h58
    exact h58
  · have eA : rg_A Yscr q = 0 := by unfold rg_A; rw [if_neg (fun y => y1 y.2)]
    rw [eA] at h58
    exact h58
  · have eA : rg_A Yscr q = 0 := by unfold rg_A; rw [if_neg (fun y => y0 y.1)]
    rw [eA] at h58
    exact h58
/-- what a parse keeps -/
def yk_p (u : SY) : Int32 × Int32 × Int32 × Int32 × Int32 × Int32 × Int32 × Int32 × Int32 × Int32 × Int32 × Int32 × (Nat → Int32) × (Nat → Int32) × (Nat → Int32) × (Nat → Int32) × (Nat → Int32) × (Nat → Int32) × (Nat → Int32) × (Nat → Int32) := match u with
  | (Yquiet, Yfuel, YscrLen, YinpLen, YhasTab, YnCmd, YoutLen, YpatLen, YholdLen, YlinesRead, YstepsUsed, Ytflag, YnAddr, Ya1K, Ya1V, Ya2K, Ya2V, Ycc, YlabS, YlabL, YsRe, YsRep, YadK, YadV, Yneg, YsG, YicN, Yna, YanS, YanE, YmJ, YrLen, Yscr, Yinp, YcmdPos, Yout, Ypat, Yhold, Yactive, Yact, Yic, Yie, YaC, YaAny, YaSt, Yrch, Ynx, Yrb) => (Yquiet, Yfuel, YscrLen, YinpLen, YhasTab, YnCmd, YoutLen, YpatLen, YholdLen, YlinesRead, YstepsUsed, Ytflag, Yscr, Yinp, YcmdPos, Yout, Ypat, Yhold, Yactive, Yact)
theorem ym_num {L q : Nat} {post : Int32 → SY → Prop} (hL : L ≤ 128) (hq : q ≤ L)
    (hg : ∀ r, nu_x Yscr L q = some r → post (nI r.2) (Yquiet, Yfuel, nI L, YinpLen, YhasTab, YnCmd, YoutLen, YpatLen, YholdLen, YlinesRead, YstepsUsed, Ytflag, YnAddr, Ya1K, Ya1V, Ya2K, Ya2V, Ycc, YlabS, YlabL, YsRe, YsRep, 1, r.1, Yneg, YsG, YicN, Yna, YanS, YanE, YmJ, YrLen, Yscr, Yinp, YcmdPos, Yout, Ypat, Yhold, Yactive, Yact, Yic, Yie, YaC, YaAny, YaSt, Yrch, Ynx, Yrb))
    (hb : nu_x Yscr L q = none → post (-1) (Yquiet, Yfuel, nI L, YinpLen, YhasTab, YnCmd, YoutLen, YpatLen, YholdLen, YlinesRead, YstepsUsed, Ytflag, YnAddr, Ya1K, Ya1V, Ya2K, Ya2V, Ycc, YlabS, YlabL, YsRe, YsRep, YadK, YadV, Yneg, YsG, YicN, Yna, YanS, YanE, YmJ, YrLen, Yscr, Yinp, YcmdPos, Yout, Ypat, Yhold, Yactive, Yact, Yic, Yie, YaC, YaAny, YaSt, Yrch, Ynx, Yrb)) :
    ∀ f k, L - (q + k) < f → k ≤ sc_e (pb_d Yscr) L q - q → wY_parseAddr_97 post (nI q) Yquiet Yfuel (nI L) YinpLen YhasTab YnCmd YoutLen YpatLen YholdLen YlinesRead YstepsUsed Ytflag YnAddr Ya1K Ya1V Ya2K Ya2V Ycc YlabS YlabL YsRe YsRep YadK YadV Yneg YsG YicN Yna YanS YanE YmJ YrLen Yscr Yinp YcmdPos Yout Ypat Yhold Yactive Yact Yic Yie YaC YaAny YaSt Yrch Ynx Yrb f (nI (q + k)) (nu_v Yscr q (if k < 3 then k else 3)) := by
  have hf := sc_facts (P := pb_d Yscr) hq
  have hsub : ∀ k, nI (q + k) - nI q = nI k := fun k => by rw [pk_sub (by omega)]; congr 1; omega
  have h147 : wY_parseAddr_147 post (nI (q + (sc_e (pb_d Yscr) L q - q))) (nu_v Yscr q (if sc_e (pb_d Yscr) L q - q < 3 then sc_e (pb_d Yscr) L q - q else 3)) (nI q) Yquiet Yfuel (nI L) YinpLen YhasTab YnCmd YoutLen YpatLen YholdLen YlinesRead YstepsUsed Ytflag YnAddr Ya1K Ya1V Ya2K Ya2V Ycc YlabS YlabL YsRe YsRep YadK YadV Yneg YsG YicN Yna YanS YanE YmJ YrLen Yscr Yinp YcmdPos Yout Ypat Yhold Yactive Yact Yic Yie YaC YaAny YaSt Yrch Ynx Yrb := by
    unfold wY_parseAddr_147
    rw [hsub]
    refine pk_lt 3 (sc_e (pb_d Yscr) L q - q) (fun w => hb (by unfold nu_x; rw [if_neg (fun y => by omega)])) (fun w => ?_)
    have e : (if sc_e (pb_d Yscr) L q - q < 3 then sc_e (pb_d Yscr) L q - q else 3) = sc_e (pb_d Yscr) L q - q := by split <;> omega
    rw [e]
    refine br_c (fun a => hb (by unfold nu_x; rw [if_neg (fun y => absurd a (Int32.not_lt.mpr y.2.1))])) (fun a => br_c (fun b => ?_) (fun b => hb (by unfold nu_x; rw [if_neg (fun y => b y.2.2)])))
    have := hg _ (by unfold nu_x; rw [if_pos ⟨w, Int32.not_lt.mp a, b⟩])
    rw [show q + (sc_e (pb_d Yscr) L q - q) = sc_e (pb_d Yscr) L q by omega]
    exact this
  intro f
  induction f with
  | zero => intro k h; omega
  | succ f ih =>
  intro k hfu hk
  by_cases z : k = sc_e (pb_d Yscr) L q - q
  · rw [← z] at h147
    refine pk_le L (q + k) (fun w => h147) (fun w => ⟨pk_in (q + k) 128 (by omega), ?_⟩)
    rw [nI_clamp (by omega)]
    refine ym_isDigit ?_
    have e2 : q + k = sc_e (pb_d Yscr) L q := by omega
    rw [if_neg (by rw [e2, hf.2.2.2 (by omega)]; decide)]
    exact br_t rfl h147
  · have hd := hf.2.2.1 (q + k) (by omega) (by omega)
    refine br_f (nI_ge (show q + k < L by omega) (by omega)) ⟨pk_in (q + k) 128 (by omega), ?_⟩
    rw [nI_clamp (by omega)]
    refine ym_isDigit ?_
    rw [if_pos hd, hsub]
    refine br_f (by decide) (pk_le 3 k (fun w => nm_r (nI_1 (q + k)) ?_) (fun w => ⟨pk_in (q + k) 128 (by omega), ?_⟩))
    · have := ih (k + 1) (by omega) (by omega)
      rw [if_neg (by omega)] at this
      rw [if_neg (by omega)]
      exact this
    · have := ih (k + 1) (by omega) (by omega)
      rw [if_pos w]
      refine nm_e (nm_r (nI_1 (q + k)) ?_)
      rw [show (if k + 1 < 3 then k + 1 else 3) = k + 1 by split <;> omega] at this
      exact this
theorem ym_parseAddr {L q : Nat} {post : Int32 → SY → Prop} (hL : L ≤ 128) (hc : ch_ok Yscr L) (hq : q ≤ L)
    (hg : ∀ a icN na anS anE ic ie aC aAny aSt, ad_x Yscr L q = some a → post (nI a.2.2) (Yquiet, Yfuel, nI L, YinpLen, YhasTab, YnCmd, YoutLen, YpatLen, YholdLen, YlinesRead, YstepsUsed, Ytflag, YnAddr, Ya1K, Ya1V, Ya2K, Ya2V, Ycc, YlabS, YlabL, YsRe, YsRep, nI a.1, a.2.1, Yneg, YsG, icN, na, anS, anE, YmJ, YrLen, Yscr, Yinp, YcmdPos, Yout, Ypat, Yhold, Yactive, Yact, ic, ie, aC, aAny, aSt, Yrch, Ynx, Yrb))
    (hb : ad_x Yscr L q = none → ∀ v, yk_p v = (Yquiet, Yfuel, nI L, YinpLen, YhasTab, YnCmd, YoutLen, YpatLen, YholdLen, YlinesRead, YstepsUsed, Ytflag, Yscr, Yinp, YcmdPos, Yout, Ypat, Yhold, Yactive, Yact) → post (-1) v) :
    wpY_parseAddr post (Yquiet, Yfuel, nI L, YinpLen, YhasTab, YnCmd, YoutLen, YpatLen, YholdLen, YlinesRead, YstepsUsed, Ytflag, YnAddr, Ya1K, Ya1V, Ya2K, Ya2V, Ycc, YlabS, YlabL, YsRe, YsRep, YadK, YadV, Yneg, YsG, YicN, Yna, YanS, YanE, YmJ, YrLen, Yscr, Yinp, YcmdPos, Yout, Ypat, Yhold, Yactive, Yact, Yic, Yie, YaC, YaAny, YaSt, Yrch, Ynx, Yrb) (nI q) := by
  unfold wpY_parseAddr
  refine br_f (nI_pos (by omega)) (pk_lt q L (fun hqL => ⟨pk_in q 128 (by omega), ?_⟩) (fun hqL => hb (by unfold ad_x; rw [if_pos hqL]) _ rfl))
  rw [nI_clamp (by omega)]
  refine nm_e ?_
  by_cases h36 : Yscr q = 36
  · refine br_t h36 ?_
    rw [nI_1]
    exact hg (2, 0, q + 1) _ _ _ _ _ _ _ _ _ (by unfold ad_x; rw [if_neg (by omega), if_pos h36])
  refine br_f h36 ?_
  by_cases h47 : Yscr q = 47
  · have ex : ad_x Yscr L q = (rg_x Yscr L (q + 1)).map (fun r => (3, nI (q + 1), r.1)) := by
      unfold ad_x
      rw [if_neg (by omega), if_neg h36, if_pos h47]
    refine br_t h47 (nm_r (nI_1 q) ?_)
    rw [nI_1]
    refine ym_loadText hL (by omega) ?_ ?_
    · intro n ic ie htx hic
      have ft := tx_facts n (q + 1) htx
      refine br_f (nI_pos (by omega)) ?_
      refine ym_build hL hc htx hic ?_ ?_
      · intro g aC aAny aSt hr hH
        refine br_f (by decide) ?_
        rw [hr] at ex
        have e1 : g.1 = tx_p Yscr (q + 1) n + 1 := by
          unfold rg_x at hr
          rw [htx] at hr
          dsimp only at hr
          split at hr
          · exact absurd hr (by simp)
          · split at hr
            · exact absurd hr (by simp)
            · exact (congrArg Prod.fst (Option.some.inj hr)).symm
        have := hg _ (nI n) (nI g.2.2.2.1) (nI g.2.1) (nI g.2.2.1) ic ie aC aAny aSt ex
        dsimp only at this
        rw [e1] at this
        exact this
      · intro hr na anS anE aC aAny aSt
        rw [hr] at ex
        exact br_t rfl (hb ex _ rfl)
    · intro htx icn ic ie
      refine br_t (by decide) ?_
      exact hb (by rw [ex, show rg_x Yscr L (q + 1) = none by unfold rg_x; rw [htx]]; rfl) _ rfl
  refine br_f h47 ?_
  refine ym_isDigit ?_
  by_cases hd : pb_d Yscr q = true
  · have ex : ad_x Yscr L q = (nu_x Yscr L q).map (fun r => (1, r.1, r.2)) := by
      unfold ad_x
      rw [if_neg (by omega), if_neg h36, if_neg h47, if_pos hd]
    rw [if_pos hd]
    refine br_f (by decide) ⟨L + 1, ?_⟩
    refine ym_num hL hq ?_ ?_ (L + 1) 0 (by omega) (by omega)
    · intro r hr
      rw [hr] at ex
      exact hg _ _ _ _ _ _ _ _ _ _ ex
    · intro hr
      rw [hr] at ex
      exact hb ex _ rfl
  · rw [if_neg hd]
    refine br_t rfl ?_
    exact hb (by unfold ad_x; rw [if_neg (by omega), if_neg h36, if_neg h47, if_neg hd]) _ rfl
end YP_1
