/-! Y's parser: a command -/
section YC_1
variable {Yquiet Yfuel YscrLen YinpLen YhasTab YnCmd YoutLen YpatLen YholdLen YlinesRead YstepsUsed Ytflag YnAddr Ya1K Ya1V Ya2K Ya2V Ycc YlabS YlabL YsRe YsRep YadK YadV Yneg YsG YicN Yna YanS YanE YmJ YrLen : Int32} {Yscr Yinp YcmdPos Yout Ypat Yhold Yactive Yact Yic Yie YaC YaAny YaSt Yrch Ynx Yrb : Nat → Int32}
/-- behind the command at q something else stands than an end -/
def cm_w (s : Nat → Int32) (L q : Nat) : Prop := cm_sk s L q < L ∧ ¬ s (cm_sk s L q) = 59 ∧ ¬ s (cm_sk s L q) = 10
theorem ym_537 {L q : Nat} {post : Int32 → SY → Prop} (hL : L ≤ 128) (hq : q ≤ L) (hg : ¬ cm_w Yscr L q → post (nI (cm_sk Yscr L q)) (Yquiet, Yfuel, nI L, YinpLen, YhasTab, YnCmd, YoutLen, YpatLen, YholdLen, YlinesRead, YstepsUsed, Ytflag, YnAddr, Ya1K, Ya1V, Ya2K, Ya2V, Ycc, YlabS, YlabL, YsRe, YsRep, YadK, YadV, Yneg, YsG, YicN, Yna, YanS, YanE, YmJ, YrLen, Yscr, Yinp, YcmdPos, Yout, Ypat, Yhold, Yactive, Yact, Yic, Yie, YaC, YaAny, YaSt, Yrch, Ynx, Yrb)) (hb : cm_w Yscr L q → post (-1) (Yquiet, Yfuel, nI L, YinpLen, YhasTab, YnCmd, YoutLen, YpatLen, YholdLen, YlinesRead, YstepsUsed, Ytflag, YnAddr, Ya1K, Ya1V, Ya2K, Ya2V, Ycc, YlabS, YlabL, YsRe, YsRep, YadK, YadV, Yneg, YsG, YicN, Yna, YanS, YanE, YmJ, YrLen, Yscr, Yinp, YcmdPos, Yout, Ypat, Yhold, Yactive, Yact, Yic, Yie, YaC, YaAny, YaSt, Yrch, Ynx, Yrb)) : wY_parseCmd_537 post (nI q) Yquiet Yfuel (nI L) YinpLen YhasTab YnCmd YoutLen YpatLen YholdLen YlinesRead YstepsUsed Ytflag YnAddr Ya1K Ya1V Ya2K Ya2V Ycc YlabS YlabL YsRe YsRep YadK YadV Yneg YsG YicN Yna YanS YanE YmJ YrLen Yscr Yinp YcmdPos Yout Ypat Yhold Yactive Yact Yic Yie YaC YaAny YaSt Yrch Ynx Yrb := by
  unfold wY_parseCmd_537
  have f := cm_sk_f (s := Yscr) hq
  refine ym_skip hL hq ?_
  refine pk_le L (cm_sk Yscr L q) (fun w => hg (fun y => by have := y.1; omega)) (fun w => ?_)
  have hi : vp_in (nI (cm_sk Yscr L q)) 128 := vp_in_nI (by omega) (by omega)
  refine ⟨hi, ?_⟩
  rw [nI_clamp (by omega)]
  exact br_c (fun h => hg (fun y => y.2.1 h)) (fun h => ⟨hi, br_c (fun h' => hg (fun y => y.2.2 h')) (fun h' => hb ⟨w, h, h'⟩)⟩)
theorem ym_lab {L l : Nat} {post : Int32 → SY → Prop} (hL : L ≤ 128) (hl : l ≤ L) (h : wY_parseCmd_425 post (nI (sc_e (pb_l Yscr) L l)) Yquiet Yfuel (nI L) YinpLen YhasTab YnCmd YoutLen YpatLen YholdLen YlinesRead YstepsUsed Ytflag YnAddr Ya1K Ya1V Ya2K Ya2V Ycc YlabS YlabL YsRe YsRep YadK YadV Yneg YsG YicN Yna YanS YanE YmJ YrLen Yscr Yinp YcmdPos Yout Ypat Yhold Yactive Yact Yic Yie YaC YaAny YaSt Yrch Ynx Yrb) : ∃ n, wY_parseCmd_398 post Yquiet Yfuel (nI L) YinpLen YhasTab YnCmd YoutLen YpatLen YholdLen YlinesRead YstepsUsed Ytflag YnAddr Ya1K Ya1V Ya2K Ya2V Ycc YlabS YlabL YsRe YsRep YadK YadV Yneg YsG YicN Yna YanS YanE YmJ YrLen Yscr Yinp YcmdPos Yout Ypat Yhold Yactive Yact Yic Yie YaC YaAny YaSt Yrch Ynx Yrb n (nI l) := by
  refine ⟨L - l + 1, ?_⟩
  refine sc_loop (fun n q => wY_parseCmd_398 post Yquiet Yfuel (nI L) YinpLen YhasTab YnCmd YoutLen YpatLen YholdLen YlinesRead YstepsUsed Ytflag YnAddr Ya1K Ya1V Ya2K Ya2V Ycc YlabS YlabL YsRe YsRep YadK YadV Yneg YsG YicN Yna YanS YanE YmJ YrLen Yscr Yinp YcmdPos Yout Ypat Yhold Yactive Yact Yic Yie YaC YaAny YaSt Yrch Ynx Yrb n (nI q)) (pb_l Yscr) L (fun q => wY_parseCmd_425 post (nI q) Yquiet Yfuel (nI L) YinpLen YhasTab YnCmd YoutLen YpatLen YholdLen YlinesRead YstepsUsed Ytflag YnAddr Ya1K Ya1V Ya2K Ya2V Ycc YlabS YlabL YsRe YsRep YadK YadV Yneg YsG YicN Yna YanS YanE YmJ YrLen Yscr Yinp YcmdPos Yout Ypat Yhold Yactive Yact Yic Yie YaC YaAny YaSt Yrch Ynx Yrb) ?_ ?_ (L - l + 1) l hl (by omega) h
  · intro n q hq hp hW
    refine br_f (nI_ge hq (by omega)) ⟨pk_in q 128 (by omega), ?_⟩
    rw [nI_clamp (by omega)]
    refine ym_isLab ?_
    rw [if_pos hp]
    exact br_f (by decide) (nm_r (nI_1 q) hW)
  · intro n q hq hp hR
    refine pk_le L q (fun g => hR) (fun g => ⟨pk_in q 128 (by omega), ?_⟩)
    rw [nI_clamp (by omega)]
    refine ym_isLab ?_
    rw [if_neg (by rw [hp g]; decide)]
    exact br_t rfl hR
theorem ym_210 {L q n : Nat} {post : Int32 → SY → Prop} (hL : L ≤ 128) (hc : ch_ok Yscr L) (hq : q ≤ L) (hn : n ≤ 2)
    (hg : ∀ b sre srep icN na anS anE ic ie aC aAny aSt, cm_b Yscr L n q = some b → ¬ cm_w Yscr L b.2.2 → q < L → (Yscr q = 115 → sre = nI b.2.1.1 ∧ srep = nI b.2.1.2.1) → post (nI (cm_sk Yscr L b.2.2)) (Yquiet, Yfuel, nI L, YinpLen, YhasTab, YnCmd, YoutLen, YpatLen, YholdLen, YlinesRead, YstepsUsed, Ytflag, nI n, Ya1K, Ya1V, Ya2K, Ya2V, Yscr q, nI b.1.1, nI b.1.2, sre, srep, YadK, YadV, Yneg, b.2.1.2.2.2, icN, na, anS, anE, YmJ, YrLen, Yscr, Yinp, YcmdPos, Yout, Ypat, Yhold, Yactive, Yact, ic, ie, aC, aAny, aSt, Yrch, Ynx, Yrb))
    (hb : (∀ b, cm_b Yscr L n q = some b → cm_w Yscr L b.2.2) → ∀ v, yk_p v = (Yquiet, Yfuel, nI L, YinpLen, YhasTab, YnCmd, YoutLen, YpatLen, YholdLen, YlinesRead, YstepsUsed, Ytflag, Yscr, Yinp, YcmdPos, Yout, Ypat, Yhold, Yactive, Yact) → post (-1) v) :
    wY_parseCmd_210 post (nI q) Yquiet Yfuel (nI L) YinpLen YhasTab YnCmd YoutLen YpatLen YholdLen YlinesRead YstepsUsed Ytflag (nI n) Ya1K Ya1V Ya2K Ya2V Ycc 0 0 YsRe YsRep YadK YadV Yneg 0 YicN Yna YanS YanE YmJ YrLen Yscr Yinp YcmdPos Yout Ypat Yhold Yactive Yact Yic Yie YaC YaAny YaSt Yrch Ynx Yrb := by
  have hb0 : cm_b Yscr L n q = none → ∀ v, yk_p v = (Yquiet, Yfuel, nI L, YinpLen, YhasTab, YnCmd, YoutLen, YpatLen, YholdLen, YlinesRead, YstepsUsed, Ytflag, Yscr, Yinp, YcmdPos, Yout, Ypat, Yhold, Yactive, Yact) → post (-1) v := fun e => hb (fun b hb' => by rw [e] at hb'; exact absurd hb' (by simp))
  refine br_f (nI_pos (by omega)) (pk_lt q L (fun hqL => ⟨pk_in q 128 (by omega), ?_⟩) (fun hqL => hb0 (by unfold cm_b; rw [if_pos hqL]) _ rfl))
  rw [nI_clamp (by omega)]
  refine nm_e (nm_r (nI_1 q) ?_)
  have fin : ∀ (b : (Nat × Nat) × (Nat × Nat × Nat × Int32) × Nat) sre srep icN na anS anE ic ie aC aAny aSt, cm_b Yscr L n q = some b → (Yscr q = 115 → sre = nI b.2.1.1 ∧ srep = nI b.2.1.2.1) → wY_parseCmd_537 post (nI b.2.2) Yquiet Yfuel (nI L) YinpLen YhasTab YnCmd YoutLen YpatLen YholdLen YlinesRead YstepsUsed Ytflag (nI n) Ya1K Ya1V Ya2K Ya2V (Yscr q) (nI b.1.1) (nI b.1.2) sre srep YadK YadV Yneg b.2.1.2.2.2 icN na anS anE YmJ YrLen Yscr Yinp YcmdPos Yout Ypat Yhold Yactive Yact ic ie aC aAny aSt Yrch Ynx Yrb := by
    intro b sre srep icN na anS anE ic ie aC aAny aSt hcb hs
    have f := cm_b_f hcb
    refine ym_537 hL f.2 (fun w => hg b _ _ _ _ _ _ _ _ _ _ _ hcb w hqL hs) (fun w => hb (fun b' hb' => ?_) _ rfl)
    rw [hcb] at hb'
    rw [← Option.some.inj hb']
    exact w
  by_cases h115 : Yscr q = 115
  · have cb : cm_b Yscr L n q = (cm_s Yscr L (q + 1)).map (fun r => ((0, 0), (r.1, r.2.1, r.2.2.1, r.2.2.2.1), r.2.2.2.2)) := by
      unfold cm_b
      rw [if_neg (by omega), if_pos h115]
    refine br_t h115 (pk_le L (q + 1) (fun w => hb0 (by rw [cb]; unfold cm_s; rw [if_neg (fun y => by omega)]; rfl) _ rfl) (fun w => ⟨pk_in (q + 1) 128 (by omega), ?_⟩))
    rw [nI_clamp (by omega)]
    refine br_c (fun h47 => ?_) (fun h47 => hb0 (by rw [cb]; unfold cm_s; rw [if_neg (fun y => h47 y.2)]; rfl) _ rfl)
    have cs : cm_s Yscr L (q + 1) = (rg_x Yscr L (q + 1 + 1)).bind (fun r => (tx_n Yscr L r.1).map (fun n =>
      (q + 1 + 1, r.1, n, (if tx_p Yscr r.1 n + 1 < L ∧ Yscr (tx_p Yscr r.1 n + 1) = 103 then (1 : Int32) else 0), (if tx_p Yscr r.1 n + 1 < L ∧ Yscr (tx_p Yscr r.1 n + 1) = 103 then tx_p Yscr r.1 n + 2 else tx_p Yscr r.1 n + 1)))) := by
      unfold cm_s
      rw [if_pos ⟨w, h47⟩]
    refine nm_r (nI_1 (q + 1)) ?_
    rw [nI_1]
    refine ym_loadText hL (by omega) ?_ ?_
    · intro n1 ic ie htx hic
      have ft := tx_facts n1 (q + 1 + 1) htx
      refine br_f (nI_pos (by omega)) ?_
      refine ym_build hL hc htx hic ?_ ?_
      · intro g aC aAny aSt hr hH
        have e1 : g.1 = tx_p Yscr (q + 1 + 1) n1 + 1 := by
          unfold rg_x at hr
          rw [htx] at hr
          dsimp only at hr
          split at hr
          · exact absurd hr (by simp)
          · split at hr
            · exact absurd hr (by simp)
            · exact (congrArg Prod.fst (Option.some.inj hr)).symm
        have fr := rg_x_f hr
        rw [hr] at cs
        dsimp only [Option.bind] at cs
        refine br_f (by decide) ?_
        rw [← e1]
        refine ym_loadText hL fr.2 ?_ ?_
        · intro n2 ic2 ie2 htx2 hic2
          have ft2 := tx_facts n2 g.1 htx2
          rw [htx2] at cs
          refine br_t (nI_pos' (by omega)) ?_
          by_cases h103 : tx_p Yscr g.1 n2 + 1 < L ∧ Yscr (tx_p Yscr g.1 n2 + 1) = 103
          · have cb' : cm_b Yscr L n q = some ((0, 0), (q + 1 + 1, g.1, n2, 1), tx_p Yscr g.1 n2 + 2) := by
              rw [cb, cs]
              show some (_, (_, _, _, _), _) = _
              dsimp only
              rw [if_pos h103, if_pos h103]
            refine br_f (nI_ge h103.1 (by omega)) ⟨vp_in_nI (by omega) (by omega), ?_⟩
            rw [nI_clamp (by omega)]
            exact br_t h103.2 (nm_r (nI_1 _) (fin _ _ _ _ _ _ _ _ _ _ _ _ cb' (fun _ => ⟨rfl, rfl⟩)))
          · have cb' : cm_b Yscr L n q = some ((0, 0), (q + 1 + 1, g.1, n2, 0), tx_p Yscr g.1 n2 + 1) := by
              rw [cb, cs]
              show some (_, (_, _, _, _), _) = _
              dsimp only
              rw [if_neg h103, if_neg h103]
            have go := fin _ (nI (q + 1 + 1)) (nI g.1) (nI n2) (nI g.2.2.2.1) (nI g.2.1) (nI g.2.2.1) ic2 ie2 aC aAny aSt cb' (fun _ => ⟨rfl, rfl⟩)
            refine pk_le L (tx_p Yscr g.1 n2 + 1) (fun w => go) (fun w => ⟨vp_in_nI (by omega) (by omega), ?_⟩)
            rw [nI_clamp (by omega)]
            exact br_f (fun y => h103 ⟨w, y⟩) go
        · intro htx2 icn ic2 ie2
          rw [htx2] at cs
          exact br_f (by decide) (hb0 (by rw [cb, cs]; rfl) _ rfl)
      · intro hr na anS anE aC aAny aSt
        rw [hr] at cs
        exact br_t rfl (hb0 (by rw [cb, cs]; rfl) _ rfl)
    · intro htx icn ic ie
      refine br_t (by decide) ?_
      exact hb0 (by rw [cb, cs, show rg_x Yscr L (q + 1 + 1) = none by unfold rg_x; rw [htx]]; rfl) _ rfl
  refine br_f h115 ?_
  have h369 : (Yscr q = 58 ∨ Yscr q = 98 ∨ Yscr q = 116) → wY_parseCmd_369 post (nI (q + 1)) Yquiet Yfuel (nI L) YinpLen YhasTab YnCmd YoutLen YpatLen YholdLen YlinesRead YstepsUsed Ytflag (nI n) Ya1K Ya1V Ya2K Ya2V (Yscr q) 0 0 YsRe YsRep YadK YadV Yneg 0 YicN Yna YanS YanE YmJ YrLen Yscr Yinp YcmdPos Yout Ypat Yhold Yactive Yact Yic Yie YaC YaAny YaSt Yrch Ynx Yrb := by
    intro hl
    have cb : cm_b Yscr L n q = (if (Yscr q = 58 ∧ 0 < n) ∨ 8 < cm_le Yscr L (q + 1) - cm_ls Yscr L (q + 1) ∨ (Yscr q = 58 ∧ cm_le Yscr L (q + 1) - cm_ls Yscr L (q + 1) < 1) then none
     else some ((cm_ls Yscr L (q + 1), cm_le Yscr L (q + 1) - cm_ls Yscr L (q + 1)), (0, 0, 0, 0), cm_le Yscr L (q + 1))) := by
      unfold cm_b
      rw [if_neg (by omega), if_neg h115, if_pos hl]
    have fl := cm_le_f (s := Yscr) (show q + 1 ≤ L by omega)
    have h387 : ¬ (Yscr q = 58 ∧ 0 < n) → wY_parseCmd_387 post (nI (q + 1)) Yquiet Yfuel (nI L) YinpLen YhasTab YnCmd YoutLen YpatLen YholdLen YlinesRead YstepsUsed Ytflag (nI n) Ya1K Ya1V Ya2K Ya2V (Yscr q) 0 0 YsRe YsRep YadK YadV Yneg 0 YicN Yna YanS YanE YmJ YrLen Yscr Yinp YcmdPos Yout Ypat Yhold Yactive Yact Yic Yie YaC YaAny YaSt Yrch Ynx Yrb := by
      intro h58
      unfold wY_parseCmd_387
      refine ym_skip hL (by omega) ?_
      refine ym_lab hL (by have := cm_sk_f (s := Yscr) (show q + 1 ≤ L by omega); exact this.2) ?_
      refine nm_r (show nI (sc_e (pb_l Yscr) L (cm_sk Yscr L (q + 1))) - nI (cm_sk Yscr L (q + 1)) = nI (cm_le Yscr L (q + 1) - cm_ls Yscr L (q + 1)) from pk_sub fl.2.1) ?_
      refine pk_lt 8 (cm_le Yscr L (q + 1) - cm_ls Yscr L (q + 1)) (fun w => hb0 (by rw [cb, if_pos (Or.inr (Or.inl w))]) _ rfl) (fun w => ?_)
      have go : (Yscr q = 58 → 1 ≤ cm_le Yscr L (q + 1) - cm_ls Yscr L (q + 1)) → wY_parseCmd_537 post (nI (cm_le Yscr L (q + 1))) Yquiet Yfuel (nI L) YinpLen YhasTab YnCmd YoutLen YpatLen YholdLen YlinesRead YstepsUsed Ytflag (nI n) Ya1K Ya1V Ya2K Ya2V (Yscr q) (nI (cm_ls Yscr L (q + 1))) (nI (cm_le Yscr L (q + 1) - cm_ls Yscr L (q + 1))) YsRe YsRep YadK YadV Yneg 0 YicN Yna YanS YanE YmJ YrLen Yscr Yinp YcmdPos Yout Ypat Yhold Yactive Yact Yic Yie YaC YaAny YaSt Yrch Ynx Yrb := by
        intro h1
        have cb' : cm_b Yscr L n q = some ((cm_ls Yscr L (q + 1), cm_le Yscr L (q + 1) - cm_ls Yscr L (q + 1)), (0, 0, 0, 0), cm_le Yscr L (q + 1)) := by
          rw [cb, if_neg]
          intro y
          rcases y with y | y | y
          · exact h58 y
          · omega
          · have := h1 y.1; omega
        exact fin _ _ _ _ _ _ _ _ _ _ _ _ cb' (fun y => absurd y h115)
      refine br_c (fun c58 => pk_le 1 (cm_le Yscr L (q + 1) - cm_ls Yscr L (q + 1)) (fun w1 => go (fun _ => w1)) (fun w1 => hb0 (by rw [cb, if_pos (Or.inr (Or.inr ⟨c58, w1⟩))]) _ rfl)) (fun c58 => go (fun y => absurd y c58))
    refine br_c (fun c58 => pk_le n 0 (fun w => h387 (fun y => by omega)) (fun w => hb0 (by rw [cb, if_pos (Or.inl ⟨c58, w⟩)]) _ rfl)) (fun c58 => h387 (fun y => c58 y.1))
  refine br_c (fun h => h369 (Or.inl h)) (fun h58 => br_c (fun h => h369 (Or.inr (Or.inl h))) (fun h98 => br_c (fun h => h369 (Or.inr (Or.inr h))) (fun h116 => ?_)))
  have hl : ¬ (Yscr q = 58 ∨ Yscr q = 98 ∨ Yscr q = 116) := fun y => by
    rcases y with y | y | y
    · exact h58 y
    · exact h98 y
    · exact h116 y
  have ok : cm_v (Yscr q) = true → wY_parseCmd_537 post (nI (q + 1)) Yquiet Yfuel (nI L) YinpLen YhasTab YnCmd YoutLen YpatLen YholdLen YlinesRead YstepsUsed Ytflag (nI n) Ya1K Ya1V Ya2K Ya2V (Yscr q) 0 0 YsRe YsRep YadK YadV Yneg 0 YicN Yna YanS YanE YmJ YrLen Yscr Yinp YcmdPos Yout Ypat Yhold Yactive Yact Yic Yie YaC YaAny YaSt Yrch Ynx Yrb := fun hv =>
    fin ((0, 0), (0, 0, 0, 0), q + 1) _ _ _ _ _ _ _ _ _ _ _ (by unfold cm_b; rw [if_neg (by omega), if_neg h115, if_neg hl, if_pos hv]) (fun y => absurd y h115)
  have okc : ∀ c : Int32, cm_v c = true → Yscr q = c → wY_parseCmd_537 post (nI (q + 1)) Yquiet Yfuel (nI L) YinpLen YhasTab YnCmd YoutLen YpatLen YholdLen YlinesRead YstepsUsed Ytflag (nI n) Ya1K Ya1V Ya2K Ya2V (Yscr q) 0 0 YsRe YsRep YadK YadV Yneg 0 YicN Yna YanS YanE YmJ YrLen Yscr Yinp YcmdPos Yout Ypat Yhold Yactive Yact Yic Yie YaC YaAny YaSt Yrch Ynx Yrb := fun c hv hx => ok (by rw [hx]; exact hv)
  refine br_c (okc 100 (by decide)) (fun h100 => br_c (okc 112 (by decide)) (fun h112 => br_c (okc 78 (by decide)) (fun h78 => br_c (okc 104 (by decide)) (fun h104 => br_c (okc 72 (by decide)) (fun h72 => br_c (okc 103 (by decide)) (fun h103 => br_c (okc 71 (by decide)) (fun h71 => br_c (okc 120 (by decide)) (fun h120 => ?_))))))))
  refine hb0 ?_ _ rfl
  unfold cm_b
  rw [if_neg (by omega), if_neg h115, if_neg hl, if_neg]
  intro y
  rcases of_decide_eq_true y with y | y | y | y | y | y | y | y
  · exact h100 y
  · exact h112 y
  · exact h78 y
  · exact h104 y
  · exact h72 y
  · exact h103 y
  · exact h71 y
  · exact h120 y
theorem ym_178 {L q : Nat} {post : Int32 → SY → Prop} (hL : L ≤ 128) (hq : q ≤ L) (h : wY_parseCmd_210 post (nI (cm_h Yscr L q)) Yquiet Yfuel (nI L) YinpLen YhasTab YnCmd YoutLen YpatLen YholdLen YlinesRead YstepsUsed Ytflag YnAddr Ya1K Ya1V Ya2K Ya2V Ycc YlabS YlabL YsRe YsRep YadK YadV (cm_g Yscr L q) YsG YicN Yna YanS YanE YmJ YrLen Yscr Yinp YcmdPos Yout Ypat Yhold Yactive Yact Yic Yie YaC YaAny YaSt Yrch Ynx Yrb) : wY_parseCmd_178 post (nI q) Yquiet Yfuel (nI L) YinpLen YhasTab YnCmd YoutLen YpatLen YholdLen YlinesRead YstepsUsed Ytflag YnAddr Ya1K Ya1V Ya2K Ya2V Ycc YlabS YlabL YsRe YsRep YadK YadV 0 YsG YicN Yna YanS YanE YmJ YrLen Yscr Yinp YcmdPos Yout Ypat Yhold Yactive Yact Yic Yie YaC YaAny YaSt Yrch Ynx Yrb := by
  unfold cm_g cm_h at h
  refine pk_le L q (fun w => ?_) (fun w => ⟨pk_in q 128 (by omega), ?_⟩)
  · rw [if_neg (fun y => by omega), if_neg (fun y => by omega)] at h
    exact h
  · rw [nI_clamp (by omega)]
    refine br_c (fun h33 => ?_) (fun h33 => ?_)
    · rw [if_pos ⟨w, h33⟩, if_pos ⟨w, h33⟩] at h
      rw [nI_1]
      exact ym_skip hL (by omega) h
    · rw [if_neg (fun y => h33 y.2), if_neg (fun y => h33 y.2)] at h
      exact h
/-- Y's fields hold the parse d -/
def yc_H (v : SY) (d : cm_T) : Prop := match v with
  | (Yquiet, Yfuel, YscrLen, YinpLen, YhasTab, YnCmd, YoutLen, YpatLen, YholdLen, YlinesRead, YstepsUsed, Ytflag, YnAddr, Ya1K, Ya1V, Ya2K, Ya2V, Ycc, YlabS, YlabL, YsRe, YsRep, YadK, YadV, Yneg, YsG, YicN, Yna, YanS, YanE, YmJ, YrLen, Yscr, Yinp, YcmdPos, Yout, Ypat, Yhold, Yactive, Yact, Yic, Yie, YaC, YaAny, YaSt, Yrch, Ynx, Yrb) => YnAddr = nI d.1.1 ∧ (¬ d.1.1 = 0 → Ya1K = nI d.1.2.1.1 ∧ Ya1V = d.1.2.1.2) ∧ (d.1.1 = 2 → Ya2K = nI d.1.2.2.1.1 ∧ Ya2V = d.1.2.2.1.2) ∧ Yneg = d.1.2.2.2.1 ∧ Ycc = d.2.1 ∧ YlabS = nI d.2.2.1.1.1 ∧ YlabL = nI d.2.2.1.1.2 ∧ (d.2.1 = 115 → YsRe = nI d.2.2.1.2.1.1 ∧ YsRep = nI d.2.2.1.2.1.2.1) ∧ YsG = d.2.2.1.2.1.2.2.2
end YC_1
