/-! Y: one step, all of it -/
section YX_1
variable {Yquiet Yfuel YscrLen YinpLen YhasTab YnCmd YoutLen YpatLen YholdLen YlinesRead YstepsUsed Ytflag YnAddr Ya1K Ya1V Ya2K Ya2V Ycc YlabS YlabL YsRe YsRep YadK YadV Yneg YsG YicN Yna YanS YanE YmJ YrLen : Int32} {Yscr Yinp YcmdPos Yout Ypat Yhold Yactive Yact Yic Yie YaC YaAny YaSt Yrch Ynx Yrb : Nat → Int32}
theorem ym_514 {L n a t : Nat} {post : Int32 → SY → Prop} (hL : L ≤ 128) (hc : ch_ok Yscr L) (hG : cq_G Yscr L n) (hn : n ≤ 16) (hcp : ∀ j, j < n → YcmdPos j = nI (cq_Q Yscr L j)) (ha : a < n) (ht : lb_t Yscr L n a t)
    (h : ∀ YnAddr1 Ya1K1 Ya1V1 Ya2K1 Ya2V1 Ycc1 YlabS1 YlabL1 YsRe1 YsRep1 YadK1 YadV1 Yneg1 YsG1 YicN1 Yna1 YanS1 YanE1 YmJ1 YrLen1 Yic1 Yie1 YaC1 YaAny1 YaSt1 Yrch1 Ynx1 Yrb1, post (nI t) (Yquiet, Yfuel, nI L, YinpLen, YhasTab, nI n, YoutLen, YpatLen, YholdLen, YlinesRead, YstepsUsed, Ytflag, YnAddr1, Ya1K1, Ya1V1, Ya2K1, Ya2V1, Ycc1, YlabS1, YlabL1, YsRe1, YsRep1, YadK1, YadV1, Yneg1, YsG1, YicN1, Yna1, YanS1, YanE1, YmJ1, YrLen1, Yscr, Yinp, YcmdPos, Yout, Ypat, Yhold, Yactive, Yact, Yic1, Yie1, YaC1, YaAny1, YaSt1, Yrch1, Ynx1, Yrb1)) : wY_step_514 post Yquiet Yfuel (nI L) YinpLen YhasTab (nI n) YoutLen YpatLen YholdLen YlinesRead YstepsUsed Ytflag YnAddr Ya1K Ya1V Ya2K Ya2V Ycc (nI (lb_s Yscr L a)) (nI (lb_l Yscr L a)) YsRe YsRep YadK YadV Yneg YsG YicN Yna YanS YanE YmJ YrLen Yscr Yinp YcmdPos Yout Ypat Yhold Yactive Yact Yic Yie YaC YaAny YaSt Yrch Ynx Yrb := by
  have fa := lb_f hG ha
  rcases ht with ⟨t1, t2⟩ | ⟨t1, t2, t3, t4, t5⟩
  · refine br_t (by rw [t1]; rfl) ?_
    rw [t2] at h
    exact h _ _ _ _ _ _ _ _ _ _ _ _ _ _ _ _ _ _ _ _ _ _ _ _ _ _ _ _
  · refine br_f (nI_ne0 (by omega) (by omega)) ⟨t + 1, ?_⟩
    exact ym_539 hL hc hG hn hcp ha t2 t3 t4 t5 h (t + 1) 0 (by omega) (by omega) _ _ _ _ _ _ _ _ _ _ _ _ _ _ _ _ _ _ _ _ _ _ _ _ _ _ _ _
theorem ym_step {L I F nC k Mo Mp Mh Mm Mq Mst : Nat} {tg : Nat → Nat} {Mout Mpat Mhold Mac : Nat → Int32} {Mt : Int32} {post : Int32 → SY → Prop} (hL : L ≤ 128) (hc : ch_ok Yscr L) (hI : I ≤ 128) (hF : F ≤ 2048) (hG : cq_G Yscr L nC) (hnC : nC ≤ 16) (hcp : ∀ j, j < nC → YcmdPos j = nI (cq_Q Yscr L j)) (htg : ∀ a, a < nC → (lb_c Yscr L a = 98 ∨ lb_c Yscr L a = 116) → lb_t Yscr L nC a (tg a)) (hk : k < nC) (hok : rn_ok Yinp I F (Mout, Mo, Mpat, Mp, Mhold, Mh, Mm, Mq, Mst, Mt, Mac)) (hm1 : 1 ≤ Mm) (hA : ya_R Yactive Yact Mac)
    (h : ∀ r k' Moutp Mop Mpatp Mpp Mholdp Mhp Mmp Mqp Mstp Mtp Macp active act YnAddr1 Ya1K1 Ya1V1 Ya2K1 Ya2V1 Ycc1 YlabS1 YlabL1 YsRe1 YsRep1 YadK1 YadV1 Yneg1 YsG1 YicN1 Yna1 YanS1 YanE1 YmJ1 YrLen1 Yic1 Yie1 YaC1 YaAny1 YaSt1 Yrch1 Ynx1 Yrb1, rn_step Yscr Yinp L I F Yquiet tg (cq_D Yscr L) k (Mout, Mo, Mpat, Mp, Mhold, Mh, Mm, Mq, Mst, Mt, Mac) = (r, k', (Moutp, Mop, Mpatp, Mpp, Mholdp, Mhp, Mmp, Mqp, Mstp, Mtp, Macp)) → ya_R active act Macp → post (rn_y r k') (Yquiet, nI F, nI L, nI I, YhasTab, nI nC, nI Mop, nI Mpp, nI Mhp, nI Mmp, nI Mstp, Mtp, YnAddr1, Ya1K1, Ya1V1, Ya2K1, Ya2V1, Ycc1, YlabS1, YlabL1, YsRe1, YsRep1, YadK1, YadV1, Yneg1, YsG1, YicN1, Yna1, YanS1, YanE1, YmJ1, YrLen1, Yscr, Yinp, YcmdPos, Moutp, Mpatp, Mholdp, active, act, Yic1, Yie1, YaC1, YaAny1, YaSt1, Yrch1, Ynx1, Yrb1)) :
    wpY_step post (Yquiet, nI F, nI L, nI I, YhasTab, nI nC, nI Mo, nI Mp, nI Mh, nI Mm, nI Mst, Mt, YnAddr, Ya1K, Ya1V, Ya2K, Ya2V, Ycc, YlabS, YlabL, YsRe, YsRep, YadK, YadV, Yneg, YsG, YicN, Yna, YanS, YanE, YmJ, YrLen, Yscr, Yinp, YcmdPos, Mout, Mpat, Mhold, Yactive, Yact, Yic, Yie, YaC, YaAny, YaSt, Yrch, Ynx, Yrb) (nI k) := by
  obtain ⟨h1, h2, h3, h4, h5, h6⟩ := hok
  have hm := ln_le h5
  have hkl := ln_kle Yinp I
  unfold wpY_step
  refine pk_eq Mst F (fun e => ?_) (fun e => nm_r (nI_1 Mst) (br_f (nI_pos (by omega)) (br_f (nI_ge (b := 16) (by omega) (by decide)) ⟨pk_in k 16 (by omega), ?_⟩)))
  · exact h 2 k Mout Mo Mpat Mp Mhold Mh Mm Mq Mst Mt Mac _ _ _ _ _ _ _ _ _ _ _ _ _ _ _ _ _ _ _ _ _ _ _ _ _ _ _ _ _ _ (by unfold rn_step; dsimp only; rw [if_pos (by omega)]) hA
  obtain ⟨g1, g2⟩ := hG k hk
  have cok := cm_x_ok (Nat.le_of_lt g1) g2
  rw [nI_clamp (by omega), hcp k hk]
  refine ym_pc hL hc (Nat.le_of_lt g1) g2 ?_
  intro YnAddr2 Ya1K2 Ya1V2 Ya2K2 Ya2V2 Ycc2 YlabS2 YlabL2 YsRe2 YsRep2 YadK2 YadV2 Yneg2 YsG2 YicN2 Yna2 YanS2 YanE2 YmJ2 YrLen2 Yic2 Yie2 YaC2 YaAny2 YaSt2 Yrch2 Ynx2 Yrb2 hH
  have fx := cm_x_f (Nat.le_of_lt g1) g2
  refine br_t (nI_pos' (by omega)) ?_
  refine ym_select (Mout := Mout) (Mo := Mo) (Mhold := Mhold) (Mh := Mh) (Mst := Mst + 1) (Mt := Mt) (Mac := Mac) hL hc hI (by omega) h2 h5 hm1 cok hH hA (fun active act icN na anS anE mj ic ie aC aAny aSt rch nx hA' => ?_)
  obtain ⟨y1, y2, y3, y4, y5, y6, y7, y8, y9⟩ := hH
  obtain ⟨o1, o2, o3, o4, o5, o6, o7⟩ := cok
  have hsf : (rn_sel Yscr L I (cq_D Yscr L k) k (Mout, Mo, Mpat, Mp, Mhold, Mh, Mm, Mq, Mst + 1, Mt, Mac)).1 = false → rn_step Yscr Yinp L I F Yquiet tg (cq_D Yscr L) k (Mout, Mo, Mpat, Mp, Mhold, Mh, Mm, Mq, Mst, Mt, Mac) = (-1, k + 1, (Mout, Mo, Mpat, Mp, Mhold, Mh, Mm, Mq, Mst + 1, Mt, (rn_sel Yscr L I (cq_D Yscr L k) k (Mout, Mo, Mpat, Mp, Mhold, Mh, Mm, Mq, Mst + 1, Mt, Mac)).2)) := by
    intro hs
    unfold rn_step
    dsimp only
    rw [if_neg (by omega), if_neg (by rw [hs]; decide)]
  have hst : (rn_sel Yscr L I (cq_D Yscr L k) k (Mout, Mo, Mpat, Mp, Mhold, Mh, Mm, Mq, Mst + 1, Mt, Mac)).1 = true → rn_step Yscr Yinp L I F Yquiet tg (cq_D Yscr L) k (Mout, Mo, Mpat, Mp, Mhold, Mh, Mm, Mq, Mst, Mt, Mac) = rn_act Yscr Yinp L I Yquiet tg (cq_D Yscr L k) k (Mout, Mo, Mpat, Mp, Mhold, Mh, Mm, Mq, Mst + 1, Mt, (rn_sel Yscr L I (cq_D Yscr L k) k (Mout, Mo, Mpat, Mp, Mhold, Mh, Mm, Mq, Mst + 1, Mt, Mac)).2) := by
    intro hs
    unfold rn_step
    dsimp only
    rw [if_neg (by omega), if_pos hs]
  generalize rn_sel Yscr L I (cq_D Yscr L k) k (Mout, Mo, Mpat, Mp, Mhold, Mh, Mm, Mq, Mst + 1, Mt, Mac) = se at hA' hsf hst ⊢
  obtain ⟨b, ac'⟩ := se
  dsimp only at hA' hsf hst ⊢
  cases b with
  | false =>
    refine br_t rfl ?_
    rw [nI_1]
    exact h (-1) (k + 1) _ _ _ _ _ _ _ _ _ _ _ _ _ _ _ _ _ _ _ _ _ _ _ _ _ _ _ _ _ _ _ _ _ _ _ _ _ _ _ _ _ (hsf rfl) hA'
  | true =>
    have hst := hst rfl
    refine br_f (by decide) ?_
    subst y5 y6 y7
    unfold rn_act at hst
    dsimp only at hst
    have key : ∀ c : Int32, (cq_D Yscr L k).2.1 = c → lb_c Yscr L k = c := fun c y => y
    refine br_c (fun c115 => ?_) (fun c115 => ?_)
    · obtain ⟨s1, s2, s3, s4, s5⟩ := o5 c115
      obtain ⟨z1, z2⟩ := y8 c115
      subst z1 z2 y9
      rw [if_pos c115] at hst
      refine ym_subst (Mout := Mout) (Mo := Mo) (Mhold := Mhold) (Mh := Mh) (Mm := Mm) (Mq := Mq) (Mst := Mst + 1) (Mt := 0) (Mac := ac') hL hc h2 s1 s2 s3 s4 (fun r n' pat' t' icN na anS anE mj rl ic ie aC aAny aSt rch nx rb hr hr3 => ?_)
      rw [hr] at hst
      have e : rn_y r (k + 1) = if r = -1 then nI (k + 1) else -13 := by
        rcases hr3 with z | z
        · rw [z]; rfl
        · rw [z]; rfl
      rw [← e]
      exact h r (k + 1) _ _ _ _ _ _ _ _ _ _ _ _ _ _ _ _ _ _ _ _ _ _ _ _ _ _ _ _ _ _ _ _ _ _ _ _ _ _ _ _ _ hst hA'
    rw [if_neg c115] at hst
    refine br_c (fun c100 => ?_) (fun c100 => ?_)
    · rw [if_pos c100] at hst
      exact h (-2) (k + 1) _ _ _ 0 _ _ _ _ _ _ _ _ _ _ _ _ _ _ _ _ _ _ _ _ _ _ _ _ _ _ _ _ _ _ _ _ _ _ _ _ _ hst hA'
    rw [if_neg c100] at hst
    refine br_c (fun c112 => ?_) (fun c112 => ?_)
    · rw [if_pos c112] at hst
      unfold rn_print at hst
      dsimp only at hst
      refine ym_print h1 h2 (fun y => br_f (by decide) ?_) (fun y => br_t rfl ?_)
      · rw [if_neg y] at hst
        rw [nI_1]
        exact h (-1) (k + 1) _ _ _ _ _ _ _ _ _ _ _ _ _ _ _ _ _ _ _ _ _ _ _ _ _ _ _ _ _ _ _ _ _ _ _ _ _ _ _ _ _ hst hA'
      · rw [if_pos y] at hst
        exact h 3 (k + 1) _ _ _ _ _ _ _ _ _ _ _ _ _ _ _ _ _ _ _ _ _ _ _ _ _ _ _ _ _ _ _ _ _ _ _ _ _ _ _ _ _ hst hA'
    rw [if_neg c112] at hst
    refine br_c (fun c78 => ?_) (fun c78 => ?_)
    · rw [if_pos c78] at hst
      refine ym_nextLine (Mhold := Mhold) (Mh := Mh) (Mst := Mst + 1) (Mt := Mt) (Mac := ac') hI h1 h2 h5 (fun r out' o' pat' n' m' q' hr => ?_)
      rw [hr] at hst
      exact h r (k + 1) _ _ _ _ _ _ _ _ _ _ _ _ _ _ _ _ _ _ _ _ _ _ _ _ _ _ _ _ _ _ _ _ _ _ _ _ _ _ _ _ _ hst hA'
    rw [if_neg c78] at hst
    refine br_c (fun c104 => ?_) (fun c104 => ?_)
    · rw [if_pos c104] at hst
      refine ym_147 h2 (ym_181 (by rw [c104]; decide) (by rw [c104]; decide) (by rw [c104]; decide) (by rw [c104]; decide) (by rw [c104]; decide) (by rw [c104]; decide) ?_)
      exact h (-1) (k + 1) _ _ _ _ _ _ _ _ _ _ _ _ _ _ _ _ _ _ _ _ _ _ _ _ _ _ _ _ _ _ _ _ _ _ _ _ _ _ _ _ _ hst hA'
    rw [if_neg c104] at hst
    refine br_c (fun c103 => ?_) (fun c103 => ?_)
    · rw [if_pos c103] at hst
      refine ym_192 h3 (ym_226 (by rw [c103]; decide) (by rw [c103]; decide) (by rw [c103]; decide) (by rw [c103]; decide) (by rw [c103]; decide) ?_)
      exact h (-1) (k + 1) _ _ _ _ _ _ _ _ _ _ _ _ _ _ _ _ _ _ _ _ _ _ _ _ _ _ _ _ _ _ _ _ _ _ _ _ _ _ _ _ _ hst hA'
    rw [if_neg c103] at hst
    refine br_c (fun c72 => ?_) (fun c72 => ?_)
    · rw [if_pos c72] at hst
      refine pk_le (Mh + 1 + Mp) 64 (fun w => ⟨pk_in Mh 64 (by omega), nm_e ?_⟩) (fun w => ?_) (hx := by rw [nI_1, nI_add])
      · rw [if_neg (by omega)] at hst
        rw [nI_clamp (by omega)]
        refine ym_267 w (ym_315 (by rw [c72]; decide) (by rw [c72]; decide) (by rw [c72]; decide) (by rw [c72]; decide) ?_)
        exact h (-1) (k + 1) _ _ _ _ _ _ _ _ _ _ _ _ _ _ _ _ _ _ _ _ _ _ _ _ _ _ _ _ _ _ _ _ _ _ _ _ _ _ _ _ _ hst hA'
      · rw [if_pos w] at hst
        exact h 3 (k + 1) _ _ _ _ _ _ _ _ _ _ _ _ _ _ _ _ _ _ _ _ _ _ _ _ _ _ _ _ _ _ _ _ _ _ _ _ _ _ _ _ _ hst hA'
    rw [if_neg c72] at hst
    refine br_c (fun c71 => ?_) (fun c71 => ?_)
    · rw [if_pos c71] at hst
      refine pk_le (Mp + 1 + Mh) 64 (fun w => ⟨pk_in Mp 64 (by omega), nm_e ?_⟩) (fun w => ?_) (hx := by rw [nI_1, nI_add])
      · rw [if_neg (by omega)] at hst
        rw [nI_clamp (by omega)]
        refine ym_356 w (ym_404 (by rw [c71]; decide) (by rw [c71]; decide) (by rw [c71]; decide) ?_)
        exact h (-1) (k + 1) _ _ _ _ _ _ _ _ _ _ _ _ _ _ _ _ _ _ _ _ _ _ _ _ _ _ _ _ _ _ _ _ _ _ _ _ _ _ _ _ _ hst hA'
      · rw [if_pos w] at hst
        exact h 3 (k + 1) _ _ _ _ _ _ _ _ _ _ _ _ _ _ _ _ _ _ _ _ _ _ _ _ _ _ _ _ _ _ _ _ _ _ _ _ _ _ _ _ _ hst hA'
    rw [if_neg c71] at hst
    refine br_c (fun c120 => ?_) (fun c120 => ?_)
    · rw [if_pos c120] at hst
      refine ym_415 (ym_471 (by rw [c120]; decide) (by rw [c120]; decide) ?_)
      exact h (-1) (k + 1) _ _ _ _ _ _ _ _ _ _ _ _ _ _ _ _ _ _ _ _ _ _ _ _ _ _ _ _ _ _ _ _ _ _ _ _ _ _ _ _ _ hst hA'
    rw [if_neg c120] at hst
    refine br_c (fun c98 => br_f (by rw [c98]; decide) ?_) (fun c98 => br_c (fun c116 => br_t c116 ?_) (fun c116 => ?_))
    · rw [if_pos c98] at hst
      exact ym_514 hL hc hG hnC hcp hk (htg k hk (Or.inl c98)) (fun YnAddr3 Ya1K3 Ya1V3 Ya2K3 Ya2V3 Ycc3 YlabS3 YlabL3 YsRe3 YsRep3 YadK3 YadV3 Yneg3 YsG3 YicN3 Yna3 YanS3 YanE3 YmJ3 YrLen3 Yic3 Yie3 YaC3 YaAny3 YaSt3 Yrch3 Ynx3 Yrb3 => h (-1) (tg k) _ _ _ _ _ _ _ _ _ _ _ _ _ _ _ _ _ _ _ _ _ _ _ _ _ _ _ _ _ _ _ _ _ _ _ _ _ _ _ _ _ hst hA')
    · rw [if_neg c98, if_pos c116] at hst
      refine br_c (fun t0 => ?_) (fun t0 => ?_)
      · rw [if_pos t0] at hst
        rw [nI_1]
        exact h (-1) (k + 1) _ _ _ _ _ _ _ _ _ _ _ _ _ _ _ _ _ _ _ _ _ _ _ _ _ _ _ _ _ _ _ _ _ _ _ _ _ _ _ _ _ hst hA'
      · rw [if_neg t0] at hst
        exact ym_514 hL hc hG hnC hcp hk (htg k hk (Or.inr c116)) (fun YnAddr3 Ya1K3 Ya1V3 Ya2K3 Ya2V3 Ycc3 YlabS3 YlabL3 YsRe3 YsRep3 YadK3 YadV3 Yneg3 YsG3 YicN3 Yna3 YanS3 YanE3 YmJ3 YrLen3 Yic3 Yie3 YaC3 YaAny3 YaSt3 Yrch3 Ynx3 Yrb3 => h (-1) (tg k) _ _ _ _ _ _ _ _ _ _ _ _ _ _ _ _ _ _ _ _ _ _ _ _ _ _ _ _ _ _ _ _ _ _ _ _ _ _ _ _ _ hst hA')
    · rw [if_neg c98, if_neg c116] at hst
      rw [nI_1]
      exact h (-1) (k + 1) _ _ _ _ _ _ _ _ _ _ _ _ _ _ _ _ _ _ _ _ _ _ _ _ _ _ _ _ _ _ _ _ _ _ _ _ _ _ _ _ _ hst hA'
end YX_1
