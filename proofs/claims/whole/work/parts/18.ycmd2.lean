/-! Y's parser: the whole command -/
section YC_2
variable {Yquiet Yfuel YscrLen YinpLen YhasTab YnCmd YoutLen YpatLen YholdLen YlinesRead YstepsUsed Ytflag YnAddr Ya1K Ya1V Ya2K Ya2V Ycc YlabS YlabL YsRe YsRep YadK YadV Yneg YsG YicN Yna YanS YanE YmJ YrLen : Int32} {Yscr Yinp YcmdPos Yout Ypat Yhold Yactive Yact Yic Yie YaC YaAny YaSt Yrch Ynx Yrb : Nat → Int32}
theorem ym_73 {L q : Nat} {post : Int32 → SY → Prop} (hL : L ≤ 128) (hc : ch_ok Yscr L) (hq : q < L) (hd : pb_d Yscr q = true ∨ Yscr q = 36 ∨ Yscr q = 47)
    (hg : ∀ (a : Nat × (Nat × Int32) × (Nat × Int32) × Int32 × Nat) a1k a1v a2k a2v adk adv icN na anS anE ic ie aC aAny aSt, cm_a Yscr L q = some a → a.1 ≤ 2 → (¬ a.1 = 0 → a1k = nI a.2.1.1 ∧ a1v = a.2.1.2) → (a.1 = 2 → a2k = nI a.2.2.1.1 ∧ a2v = a.2.2.1.2) → wY_parseCmd_210 post (nI a.2.2.2.2) Yquiet Yfuel (nI L) YinpLen YhasTab YnCmd YoutLen YpatLen YholdLen YlinesRead YstepsUsed Ytflag (nI a.1) a1k a1v a2k a2v Ycc YlabS YlabL YsRe YsRep adk adv a.2.2.2.1 YsG icN na anS anE YmJ YrLen Yscr Yinp YcmdPos Yout Ypat Yhold Yactive Yact ic ie aC aAny aSt Yrch Ynx Yrb)
    (hb : cm_a Yscr L q = none → ∀ v, yk_p v = (Yquiet, Yfuel, nI L, YinpLen, YhasTab, YnCmd, YoutLen, YpatLen, YholdLen, YlinesRead, YstepsUsed, Ytflag, Yscr, Yinp, YcmdPos, Yout, Ypat, Yhold, Yactive, Yact) → post (-1) v) :
    wY_parseCmd_73 post (nI q) Yquiet Yfuel (nI L) YinpLen YhasTab YnCmd YoutLen YpatLen YholdLen YlinesRead YstepsUsed Ytflag 0 Ya1K Ya1V Ya2K Ya2V Ycc YlabS YlabL YsRe YsRep YadK YadV 0 YsG YicN Yna YanS YanE YmJ YrLen Yscr Yinp YcmdPos Yout Ypat Yhold Yactive Yact Yic Yie YaC YaAny YaSt Yrch Ynx Yrb := by
  have ca : cm_a Yscr L q = (ad_x Yscr L q).bind (fun a =>
      if cm_sk Yscr L a.2.2 < L ∧ Yscr (cm_sk Yscr L a.2.2) = 44 then
        (ad_x Yscr L (cm_sk Yscr L (cm_sk Yscr L a.2.2 + 1))).map (fun b => (2, (a.1, a.2.1), (b.1, b.2.1), cm_g Yscr L (cm_sk Yscr L b.2.2), cm_h Yscr L (cm_sk Yscr L b.2.2)))
      else some (1, (a.1, a.2.1), (0, 0), cm_g Yscr L (cm_sk Yscr L a.2.2), cm_h Yscr L (cm_sk Yscr L a.2.2))) := by
    unfold cm_a
    rw [if_pos ⟨hq, hd⟩]
  unfold wY_parseCmd_73
  refine ym_parseAddr hL hc (by omega) ?_ ?_
  · intro a icN na anS anE ic ie aC aAny aSt hax
    have fa := ad_x_f hax
    have f1 := cm_sk_f (s := Yscr) fa.2
    rw [hax] at ca
    dsimp only [Option.bind] at ca
    refine br_t (nI_pos' (by omega)) ?_
    refine ym_skip hL fa.2 ?_
    have one : ¬ (cm_sk Yscr L a.2.2 < L ∧ Yscr (cm_sk Yscr L a.2.2) = 44) → wY_parseCmd_178 post (nI (cm_sk Yscr L a.2.2)) Yquiet Yfuel (nI L) YinpLen YhasTab YnCmd YoutLen YpatLen YholdLen YlinesRead YstepsUsed Ytflag (nI 1) (nI a.1) a.2.1 Ya2K Ya2V Ycc YlabS YlabL YsRe YsRep (nI a.1) a.2.1 0 YsG icN na anS anE YmJ YrLen Yscr Yinp YcmdPos Yout Ypat Yhold Yactive Yact ic ie aC aAny aSt Yrch Ynx Yrb := by
      intro hcm
      rw [if_neg hcm] at ca
      refine ym_178 hL f1.2 ?_
      exact hg (1, (a.1, a.2.1), (0, 0), cm_g Yscr L (cm_sk Yscr L a.2.2), cm_h Yscr L (cm_sk Yscr L a.2.2)) (nI a.1) a.2.1 Ya2K Ya2V (nI a.1) a.2.1 icN na anS anE ic ie aC aAny aSt ca (by decide : (1 : Nat) ≤ 2) (fun _ => ⟨rfl, rfl⟩) (fun y => absurd y (by decide : ¬ (1 : Nat) = 2))
    refine pk_le L (cm_sk Yscr L a.2.2) (fun w => one (fun y => by omega)) (fun w => ⟨vp_in_nI (by omega) (by omega), ?_⟩)
    rw [nI_clamp (by omega)]
    refine br_c (fun h44 => ?_) (fun h44 => one (fun y => h44 y.2))
    rw [if_pos ⟨w, h44⟩] at ca
    have f2 := cm_sk_f (s := Yscr) (show cm_sk Yscr L a.2.2 + 1 ≤ L by omega)
    rw [nI_1]
    refine ym_skip hL (by omega) ?_
    refine ym_parseAddr hL hc f2.2 ?_ ?_
    · intro b icN' na' anS' anE' ic' ie' aC' aAny' aSt' hbx
      have fb := ad_x_f hbx
      have f3 := cm_sk_f (s := Yscr) fb.2
      rw [hbx] at ca
      refine br_t (nI_pos' (by omega)) ?_
      refine ym_skip hL fb.2 ?_
      refine ym_178 hL f3.2 ?_
      exact hg (2, (a.1, a.2.1), (b.1, b.2.1), cm_g Yscr L (cm_sk Yscr L b.2.2), cm_h Yscr L (cm_sk Yscr L b.2.2)) (nI a.1) a.2.1 (nI b.1) b.2.1 (nI b.1) b.2.1 icN' na' anS' anE' ic' ie' aC' aAny' aSt' ca (Nat.le_refl 2) (fun _ => ⟨rfl, rfl⟩) (fun _ => ⟨rfl, rfl⟩)
    · intro hbx v hv
      rw [hbx] at ca
      obtain ⟨Yquiet1, Yfuel1, YscrLen1, YinpLen1, YhasTab1, YnCmd1, YoutLen1, YpatLen1, YholdLen1, YlinesRead1, YstepsUsed1, Ytflag1, YnAddr1, Ya1K1, Ya1V1, Ya2K1, Ya2V1, Ycc1, YlabS1, YlabL1, YsRe1, YsRep1, YadK1, YadV1, Yneg1, YsG1, YicN1, Yna1, YanS1, YanE1, YmJ1, YrLen1, Yscr1, Yinp1, YcmdPos1, Yout1, Ypat1, Yhold1, Yactive1, Yact1, Yic1, Yie1, YaC1, YaAny1, YaSt1, Yrch1, Ynx1, Yrb1⟩ := v
      exact br_f (by decide) (hb ca _ hv)
  · intro hax v hv
    rw [hax] at ca
    obtain ⟨Yquiet1, Yfuel1, YscrLen1, YinpLen1, YhasTab1, YnCmd1, YoutLen1, YpatLen1, YholdLen1, YlinesRead1, YstepsUsed1, Ytflag1, YnAddr1, Ya1K1, Ya1V1, Ya2K1, Ya2V1, Ycc1, YlabS1, YlabL1, YsRe1, YsRep1, YadK1, YadV1, Yneg1, YsG1, YicN1, Yna1, YanS1, YanE1, YmJ1, YrLen1, Yscr1, Yinp1, YcmdPos1, Yout1, Ypat1, Yhold1, Yactive1, Yact1, Yic1, Yie1, YaC1, YaAny1, YaSt1, Yrch1, Ynx1, Yrb1⟩ := v
    exact br_f (by decide) (hb ca _ hv)
theorem ym_parseCmd {L q : Nat} {post : Int32 → SY → Prop} (hL : L ≤ 128) (hc : ch_ok Yscr L) (hq : q ≤ L)
    (hg : ∀ d v, cm_x Yscr L q = some d → yk_p v = (Yquiet, Yfuel, nI L, YinpLen, YhasTab, YnCmd, YoutLen, YpatLen, YholdLen, YlinesRead, YstepsUsed, Ytflag, Yscr, Yinp, YcmdPos, Yout, Ypat, Yhold, Yactive, Yact) → yc_H v d → post (nI d.2.2.2) v)
    (hb : cm_x Yscr L q = none → ∀ v, yk_p v = (Yquiet, Yfuel, nI L, YinpLen, YhasTab, YnCmd, YoutLen, YpatLen, YholdLen, YlinesRead, YstepsUsed, Ytflag, Yscr, Yinp, YcmdPos, Yout, Ypat, Yhold, Yactive, Yact) → post (-1) v) :
    wpY_parseCmd post (Yquiet, Yfuel, nI L, YinpLen, YhasTab, YnCmd, YoutLen, YpatLen, YholdLen, YlinesRead, YstepsUsed, Ytflag, YnAddr, Ya1K, Ya1V, Ya2K, Ya2V, Ycc, YlabS, YlabL, YsRe, YsRep, YadK, YadV, Yneg, YsG, YicN, Yna, YanS, YanE, YmJ, YrLen, Yscr, Yinp, YcmdPos, Yout, Ypat, Yhold, Yactive, Yact, Yic, Yie, YaC, YaAny, YaSt, Yrch, Ynx, Yrb) (nI q) := by
  have h210 : ∀ (a : Nat × (Nat × Int32) × (Nat × Int32) × Int32 × Nat) a1k a1v a2k a2v sre srep adk adv icN na anS anE ic ie aC aAny aSt, cm_a Yscr L q = some a → a.1 ≤ 2 → (¬ a.1 = 0 → a1k = nI a.2.1.1 ∧ a1v = a.2.1.2) → (a.1 = 2 → a2k = nI a.2.2.1.1 ∧ a2v = a.2.2.1.2) → wY_parseCmd_210 post (nI a.2.2.2.2) Yquiet Yfuel (nI L) YinpLen YhasTab YnCmd YoutLen YpatLen YholdLen YlinesRead YstepsUsed Ytflag (nI a.1) a1k a1v a2k a2v 0 0 0 sre srep adk adv a.2.2.2.1 0 icN na anS anE YmJ YrLen Yscr Yinp YcmdPos Yout Ypat Yhold Yactive Yact ic ie aC aAny aSt Yrch Ynx Yrb := by
    intro a a1k a1v a2k a2v sre srep adk adv icN na anS anE ic ie aC aAny aSt hca h2 ha1 ha2
    have fa := cm_a_f hq hca
    refine ym_210 hL hc fa.2 h2 ?_ ?_
    · intro b sre' srep' icN' na' anS' anE' ic' ie' aC' aAny' aSt' hcb hw hlt hs
      have hx : cm_x Yscr L q = some (a, Yscr a.2.2.2.2, b, cm_sk Yscr L b.2.2) := by
        unfold cm_x
        rw [hca]
        dsimp only [Option.bind]
        rw [hcb]
        dsimp only
        exact if_neg hw
      exact hg _ _ hx rfl ⟨rfl, ha1, ha2, rfl, rfl, rfl, rfl, hs, rfl⟩
    · intro hbad v hv
      refine hb ?_ v hv
      unfold cm_x
      rw [hca]
      dsimp only [Option.bind]
      cases hcb : cm_b Yscr L a.1 a.2.2.2.2 with
      | none => rfl
      | some b =>
        dsimp only
        exact if_pos (hbad b hcb)
  have hb73 : cm_a Yscr L q = none → ∀ v, yk_p v = (Yquiet, Yfuel, nI L, YinpLen, YhasTab, YnCmd, YoutLen, YpatLen, YholdLen, YlinesRead, YstepsUsed, Ytflag, Yscr, Yinp, YcmdPos, Yout, Ypat, Yhold, Yactive, Yact) → post (-1) v := fun e => hb (by unfold cm_x; rw [e]; rfl)
  have none0 : ¬ (q < L ∧ (pb_d Yscr q = true ∨ Yscr q = 36 ∨ Yscr q = 47)) → wY_parseCmd_210 post (nI q) Yquiet Yfuel (nI L) YinpLen YhasTab YnCmd YoutLen YpatLen YholdLen YlinesRead YstepsUsed Ytflag 0 Ya1K Ya1V Ya2K Ya2V 0 0 0 YsRe YsRep YadK YadV 0 0 YicN Yna YanS YanE YmJ YrLen Yscr Yinp YcmdPos Yout Ypat Yhold Yactive Yact Yic Yie YaC YaAny YaSt Yrch Ynx Yrb := fun hn =>
    h210 (0, (0, 0), (0, 0), 0, q) Ya1K Ya1V Ya2K Ya2V YsRe YsRep YadK YadV YicN Yna YanS YanE Yic Yie YaC YaAny YaSt (by unfold cm_a; rw [if_neg hn]) (Nat.zero_le 2) (fun y => absurd rfl y) (fun y => absurd y (by decide : ¬ (0 : Nat) = 2))
  have some0 : q < L → (pb_d Yscr q = true ∨ Yscr q = 36 ∨ Yscr q = 47) → wY_parseCmd_73 post (nI q) Yquiet Yfuel (nI L) YinpLen YhasTab YnCmd YoutLen YpatLen YholdLen YlinesRead YstepsUsed Ytflag 0 Ya1K Ya1V Ya2K Ya2V 0 0 0 YsRe YsRep YadK YadV 0 0 YicN Yna YanS YanE YmJ YrLen Yscr Yinp YcmdPos Yout Ypat Yhold Yactive Yact Yic Yie YaC YaAny YaSt Yrch Ynx Yrb := fun hqL hd =>
    ym_73 hL hc hqL hd (fun a a1k a1v a2k a2v adk adv icN na anS anE ic ie aC aAny aSt h1 h2 h3 h4 => h210 a a1k a1v a2k a2v YsRe YsRep adk adv icN na anS anE ic ie aC aAny aSt h1 h2 h3 h4) hb73
  unfold wpY_parseCmd
  refine pk_le L q (fun w => none0 (fun y => by omega)) (fun w => ⟨pk_in q 128 (by omega), ?_⟩)
  have hi : vp_in (nI q) 128 := pk_in q 128 (by omega)
  rw [nI_clamp (by omega)]
  refine ym_isDigit ?_
  by_cases hd : pb_d Yscr q = true
  · rw [if_pos hd]
    exact br_f (by decide) (some0 w (Or.inl hd))
  · rw [if_neg hd]
    exact br_t rfl ⟨hi, br_c (fun h => some0 w (Or.inr (Or.inl h))) (fun h => ⟨hi, br_c (fun h' => some0 w (Or.inr (Or.inr h'))) (fun h' => none0 (fun y => by
      rcases y.2 with z | z | z
      · exact hd z
      · exact h z
      · exact h' z))⟩)⟩
end YC_2
