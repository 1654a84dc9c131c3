/-! Y: the run -/
section YR_1
variable {Yquiet Yfuel YscrLen YinpLen YhasTab YnCmd YoutLen YpatLen YholdLen YlinesRead YstepsUsed Ytflag YnAddr Ya1K Ya1V Ya2K Ya2V Ycc YlabS YlabL YsRe YsRep YadK YadV Yneg YsG YicN Yna YanS YanE YmJ YrLen : Int32} {Yscr Yinp YcmdPos Yout Ypat Yhold Yactive Yact Yic Yie YaC YaAny YaSt Yrch Ynx Yrb : Nat → Int32}
def rn_V (r : Int32) : Prop := r = -1 ∨ r = -2 ∨ r = 0 ∨ r = 2 ∨ r = 3
theorem rn_sub_V (s : Nat → Int32) (L : Nat) (d : cm_T) (z : rn_T) : rn_V (rn_sub s L d z).1 := by
  obtain ⟨Mout, Mo, Mpat, Mp, Mhold, Mh, Mm, Mq, Mst, Mt, Mac⟩ := z
  unfold rn_sub
  dsimp only
  split
  · exact Or.inl rfl
  · split
    · exact Or.inl rfl
    · split
      · exact Or.inr (Or.inr (Or.inr (Or.inr rfl)))
      · exact Or.inl rfl
theorem rn_N_V (inp : Nat → Int32) (I : Nat) (qt : Int32) (z : rn_T) : rn_V (rn_N inp I qt z).1 := by
  obtain ⟨Mout, Mo, Mpat, Mp, Mhold, Mh, Mm, Mq, Mst, Mt, Mac⟩ := z
  unfold rn_N
  dsimp only
  split
  · split
    · split
      · exact Or.inr (Or.inr (Or.inr (Or.inr rfl)))
      · exact Or.inr (Or.inr (Or.inl rfl))
    · exact Or.inr (Or.inr (Or.inl rfl))
  · split
    · exact Or.inr (Or.inr (Or.inr (Or.inr rfl)))
    · exact Or.inl rfl
theorem rn_act_V (s inp : Nat → Int32) (L I : Nat) (qt : Int32) (tg : Nat → Nat) (d : cm_T) (k : Nat) (z : rn_T) : rn_V (rn_act s inp L I qt tg d k z).1 := by
  obtain ⟨Mout, Mo, Mpat, Mp, Mhold, Mh, Mm, Mq, Mst, Mt, Mac⟩ := z
  unfold rn_act
  dsimp only
  by_cases c115 : d.2.1 = 115
  · rw [if_pos c115]
    exact rn_sub_V _ _ _ _
  rw [if_neg c115]
  by_cases c100 : d.2.1 = 100
  · rw [if_pos c100]
    exact Or.inr (Or.inl rfl)
  rw [if_neg c100]
  by_cases c112 : d.2.1 = 112
  · rw [if_pos c112]
    split
    · exact Or.inr (Or.inr (Or.inr (Or.inr rfl)))
    · exact Or.inl rfl
  rw [if_neg c112]
  by_cases c78 : d.2.1 = 78
  · rw [if_pos c78]
    exact rn_N_V _ _ _ _
  rw [if_neg c78]
  by_cases c104 : d.2.1 = 104
  · rw [if_pos c104]
    exact Or.inl rfl
  rw [if_neg c104]
  by_cases c103 : d.2.1 = 103
  · rw [if_pos c103]
    exact Or.inl rfl
  rw [if_neg c103]
  by_cases c72 : d.2.1 = 72
  · rw [if_pos c72]
    split
    · exact Or.inr (Or.inr (Or.inr (Or.inr rfl)))
    · exact Or.inl rfl
  rw [if_neg c72]
  by_cases c71 : d.2.1 = 71
  · rw [if_pos c71]
    split
    · exact Or.inr (Or.inr (Or.inr (Or.inr rfl)))
    · exact Or.inl rfl
  rw [if_neg c71]
  by_cases c120 : d.2.1 = 120
  · rw [if_pos c120]
    exact Or.inl rfl
  rw [if_neg c120]
  by_cases c98 : d.2.1 = 98
  · rw [if_pos c98]
    exact Or.inl rfl
  rw [if_neg c98]
  by_cases c116 : d.2.1 = 116
  · rw [if_pos c116]
    split
    · exact Or.inl rfl
    · exact Or.inl rfl
  rw [if_neg c116]
  exact Or.inl rfl
theorem rn_step_V (s inp : Nat → Int32) (L I F : Nat) (qt : Int32) (tg : Nat → Nat) (D : Nat → cm_T) (k : Nat) (z : rn_T) : rn_V (rn_step s inp L I F qt tg D k z).1 := by
  obtain ⟨Mout, Mo, Mpat, Mp, Mhold, Mh, Mm, Mq, Mst, Mt, Mac⟩ := z
  unfold rn_step
  dsimp only
  split
  · exact Or.inr (Or.inr (Or.inr (Or.inl rfl)))
  · split
    · exact rn_act_V _ _ _ _ _ _ _ _ _
    · exact Or.inl rfl
theorem ym_216 {c I k Mo Mp : Nat} {r : Int32} {Mout Mpat Mhold Mac : Nat → Int32} {Mh Mm Mq Mst : Nat} {Mt : Int32} {G : Nat} {post : Int32 → SY → Prop} (h1 : Mo ≤ 256) (h2 : Mp ≤ 64) (hk : k ≤ 16) (hV : rn_V r)
    (hJ : ∀ Moutp Mop Mpatp Mpp Mholdp Mhp Mmp Mqp Mstp Mtp Macp, rn_end Yquiet r (Mout, Mo, Mpat, Mp, Mhold, Mh, Mm, Mq, Mst, Mt, Mac) = (-1, (Moutp, Mop, Mpatp, Mpp, Mholdp, Mhp, Mmp, Mqp, Mstp, Mtp, Macp)) → wY_run_62 post G (nI (c + 1)) Yquiet Yfuel YscrLen (nI I) YhasTab YnCmd (nI Mop) (nI Mpp) (nI Mhp) (nI Mmp) (nI Mstp) Mtp YnAddr Ya1K Ya1V Ya2K Ya2V Ycc YlabS YlabL YsRe YsRep YadK YadV Yneg YsG YicN Yna YanS YanE YmJ YrLen Yscr Yinp YcmdPos Moutp Mpatp Mholdp Yactive Yact Yic Yie YaC YaAny YaSt Yrch Ynx Yrb)
    (hP : ∀ r' Moutp Mop Mpatp Mpp Mholdp Mhp Mmp Mqp Mstp Mtp Macp, ¬ r' = -1 → rn_end Yquiet r (Mout, Mo, Mpat, Mp, Mhold, Mh, Mm, Mq, Mst, Mt, Mac) = (r', (Moutp, Mop, Mpatp, Mpp, Mholdp, Mhp, Mmp, Mqp, Mstp, Mtp, Macp)) → post r' (Yquiet, Yfuel, YscrLen, nI I, YhasTab, YnCmd, nI Mop, nI Mpp, nI Mhp, nI Mmp, nI Mstp, Mtp, YnAddr, Ya1K, Ya1V, Ya2K, Ya2V, Ycc, YlabS, YlabL, YsRe, YsRep, YadK, YadV, Yneg, YsG, YicN, Yna, YanS, YanE, YmJ, YrLen, Yscr, Yinp, YcmdPos, Moutp, Mpatp, Mholdp, Yactive, Yact, Yic, Yie, YaC, YaAny, YaSt, Yrch, Ynx, Yrb)) : wY_run_216 post (wY_run_62 post G) (nI c) (rn_y r k) Yquiet Yfuel YscrLen (nI I) YhasTab YnCmd (nI Mo) (nI Mp) (nI Mh) (nI Mm) (nI Mst) Mt YnAddr Ya1K Ya1V Ya2K Ya2V Ycc YlabS YlabL YsRe YsRep YadK YadV Yneg YsG YicN Yna YanS YanE YmJ YrLen Yscr Yinp YcmdPos Mout Mpat Mhold Yactive Yact Yic Yie YaC YaAny YaSt Yrch Ynx Yrb := by
  unfold rn_end at hJ hP
  by_cases e1 : r = -1
  · subst e1
    rw [if_pos rfl] at hJ hP
    show wY_run_216 post (wY_run_62 post G) (nI c) (nI k) Yquiet Yfuel YscrLen (nI I) YhasTab YnCmd (nI Mo) (nI Mp) (nI Mh) (nI Mm) (nI Mst) Mt YnAddr Ya1K Ya1V Ya2K Ya2V Ycc YlabS YlabL YsRe YsRep YadK YadV Yneg YsG YicN Yna YanS YanE YmJ YrLen Yscr Yinp YcmdPos Mout Mpat Mhold Yactive Yact Yic Yie YaC YaAny YaSt Yrch Ynx Yrb
    refine br_f (fun e => absurd (nI_pos (n := k) (by omega)) (by rw [e]; exact fun q => q (by decide))) (br_t (Int32.lt_of_lt_of_le (by decide : (-10 : Int32) < 0) (nI_pos' (by omega))) (br_c (fun q0 => ?_) (fun q0 => nm_r (nI_1 c) ?_)))
    · rw [if_pos q0] at hJ hP
      unfold rn_print at hJ hP
      dsimp only at hJ hP
      refine ym_print h1 h2 (fun y => br_f (by decide) (nm_r (nI_1 c) ?_)) (fun y => br_t rfl ?_)
      · rw [if_neg y] at hJ
        exact hJ _ _ _ _ _ _ _ _ _ _ _ rfl
      · rw [if_pos y] at hP
        exact hP 3 _ _ _ _ _ _ _ _ _ _ _ (by decide) rfl
    · rw [if_neg q0] at hJ
      exact hJ _ _ _ _ _ _ _ _ _ _ _ rfl
  · rw [if_neg e1] at hJ hP
    by_cases e2 : r = -2
    · subst e2
      rw [if_pos rfl] at hJ
      exact br_t rfl (nm_r (nI_1 c) (hJ _ _ _ _ _ _ _ _ _ _ _ rfl))
    · rw [if_neg e2] at hP
      have := hP r _ _ _ _ _ _ _ _ _ _ _ e1 rfl
      rcases hV with z | z | z | z | z
      · exact absurd z e1
      · exact absurd z e2
      · subst z
        rw [show rn_y 0 k = -10 from rfl]
        refine br_f (by decide) (br_f (by decide) ?_)
        rw [show (-10 : Int32) - (-10) = 0 by decide]
        exact this
      · subst z
        rw [show rn_y 2 k = -12 from rfl]
        refine br_f (by decide) (br_f (by decide) ?_)
        rw [show (-10 : Int32) - (-12) = 2 by decide]
        exact this
      · subst z
        rw [show rn_y 3 k = -13 from rfl]
        refine br_f (by decide) (br_f (by decide) ?_)
        rw [show (-10 : Int32) - (-13) = 3 by decide]
        exact this
theorem rn_y_neg {r : Int32} {k : Nat} (hV : rn_V r) (e : ¬ r = -1) : rn_y r k < 0 := by
  unfold rn_y
  rw [if_neg e]
  rcases hV with z | z | z | z | z
  · exact absurd z e
  · rw [z]; decide
  · rw [z]; decide
  · rw [z]; decide
  · rw [z]; decide
theorem ym_180 {L I F n : Nat} {tg : Nat → Nat} {c : Int32} {J : Nat} {post : Int32 → SY → Prop} (hL : L ≤ 128) (hc : ch_ok Yscr L) (hI : I ≤ 128) (hF : F ≤ 2048) (hG : cq_G Yscr L n) (hn : n ≤ 16) (hcp : ∀ j, j < n → YcmdPos j = nI (cq_Q Yscr L j)) (htg : ∀ a, a < n → (lb_c Yscr L a = 98 ∨ lb_c Yscr L a = 116) → lb_t Yscr L n a (tg a)) (ht : ∀ k, k < n → tg k ≤ n) :
    ∀ g k rd Mout Mo Mpat Mp Mhold Mh Mm Mq Mst Mt Mac active act YnAddr1 Ya1K1 Ya1V1 Ya2K1 Ya2V1 Ycc1 YlabS1 YlabL1 YsRe1 YsRep1 YadK1 YadV1 Yneg1 YsG1 YicN1 Yna1 YanS1 YanE1 YmJ1 YrLen1 Yic1 Yie1 YaC1 YaAny1 YaSt1 Yrch1 Ynx1 Yrb1, rn_ok Yinp I F (Mout, Mo, Mpat, Mp, Mhold, Mh, Mm, Mq, Mst, Mt, Mac) → 1 ≤ Mq → F + 1 - Mst ≤ g → rd ≤ Mst → k ≤ n → ya_R active act Mac → (∀ r k' Moutp Mop Mpatp Mpp Mholdp Mhp Mmp Mqp Mstp Mtp Macp active act YnAddr2 Ya1K2 Ya1V2 Ya2K2 Ya2V2 Ycc2 YlabS2 YlabL2 YsRe2 YsRep2 YadK2 YadV2 Yneg2 YsG2 YicN2 Yna2 YanS2 YanE2 YmJ2 YrLen2 Yic2 Yie2 YaC2 YaAny2 YaSt2 Yrch2 Ynx2 Yrb2, rn_in Yscr Yinp L I F n Yquiet tg (cq_D Yscr L) g k (Mout, Mo, Mpat, Mp, Mhold, Mh, Mm, Mq, Mst, Mt, Mac) = (r, (Moutp, Mop, Mpatp, Mpp, Mholdp, Mhp, Mmp, Mqp, Mstp, Mtp, Macp)) → k' ≤ 16 → rn_V r → ya_R active act Macp → wY_run_216 post (wY_run_62 post J) c (rn_y r k') Yquiet (nI F) (nI L) (nI I) YhasTab (nI n) (nI Mop) (nI Mpp) (nI Mhp) (nI Mmp) (nI Mstp) Mtp YnAddr2 Ya1K2 Ya1V2 Ya2K2 Ya2V2 Ycc2 YlabS2 YlabL2 YsRe2 YsRep2 YadK2 YadV2 Yneg2 YsG2 YicN2 Yna2 YanS2 YanE2 YmJ2 YrLen2 Yscr Yinp YcmdPos Moutp Mpatp Mholdp active act Yic2 Yie2 YaC2 YaAny2 YaSt2 Yrch2 Ynx2 Yrb2) → wY_run_180 post (wY_run_62 post J) c (g + 1) (nI k) (nI rd) Yquiet (nI F) (nI L) (nI I) YhasTab (nI n) (nI Mo) (nI Mp) (nI Mh) (nI Mm) (nI Mst) Mt YnAddr1 Ya1K1 Ya1V1 Ya2K1 Ya2V1 Ycc1 YlabS1 YlabL1 YsRe1 YsRep1 YadK1 YadV1 Yneg1 YsG1 YicN1 Yna1 YanS1 YanE1 YmJ1 YrLen1 Yscr Yinp YcmdPos Mout Mpat Mhold active act Yic1 Yie1 YaC1 YaAny1 YaSt1 Yrch1 Ynx1 Yrb1 := by
  intro g
  induction g with
  | zero => intro k rd Mout Mo Mpat Mp Mhold Mh Mm Mq Mst Mt Mac active act YnAddr1 Ya1K1 Ya1V1 Ya2K1 Ya2V1 Ycc1 YlabS1 YlabL1 YsRe1 YsRep1 YadK1 YadV1 Yneg1 YsG1 YicN1 Yna1 YanS1 YanE1 YmJ1 YrLen1 Yic1 Yie1 YaC1 YaAny1 YaSt1 Yrch1 Ynx1 Yrb1 hok hq hg; have := hok.2.2.2.1; omega
  | succ g ih =>
  intro k rd Mout Mo Mpat Mp Mhold Mh Mm Mq Mst Mt Mac active act YnAddr1 Ya1K1 Ya1V1 Ya2K1 Ya2V1 Ycc1 YlabS1 YlabL1 YsRe1 YsRep1 YadK1 YadV1 Yneg1 YsG1 YicN1 Yna1 YanS1 YanE1 YmJ1 YrLen1 Yic1 Yie1 YaC1 YaAny1 YaSt1 Yrch1 Ynx1 Yrb1 hok hq hg hrd hk hA h
  have h4 := hok.2.2.2.1
  rw [rn_in] at h
  refine br_f (nI_nlt (a := 2048) (by omega) (by decide)) (br_f (nI_pos (by omega)) (pk_le n k (fun w => ?_) (fun w => ?_)))
  · rw [if_pos w] at h
    exact h (-1) k _ _ _ _ _ _ _ _ _ _ _ _ _ _ _ _ _ _ _ _ _ _ _ _ _ _ _ _ _ _ _ _ _ _ _ _ _ _ _ _ _ rfl (by omega) (Or.inl rfl) hA
  · rw [if_neg (by omega)] at h
    have hm1 := ln_1 hok.2.2.2.2.1 hq
    obtain ⟨s1, s2, s3⟩ := rn_step_ok (s := Yscr) (L := L) (qt := Yquiet) (tg := tg) (D := cq_D Yscr L) hok w (ht k w)
    have sV := rn_step_V Yscr Yinp L I F Yquiet tg (cq_D Yscr L) k (Mout, Mo, Mpat, Mp, Mhold, Mh, Mm, Mq, Mst, Mt, Mac)
    refine ym_step hL hc hI hF hG hn hcp htg w hok hm1 hA ?_
    intro r k' Moutp Mop Mpatp Mpp Mholdp Mhp Mmp Mqp Mstp Mtp Macp active' act' YnAddr3 Ya1K3 Ya1V3 Ya2K3 Ya2V3 Ycc3 YlabS3 YlabL3 YsRe3 YsRep3 YadK3 YadV3 Yneg3 YsG3 YicN3 Yna3 YanS3 YanE3 YmJ3 YrLen3 Yic3 Yie3 YaC3 YaAny3 YaSt3 Yrch3 Ynx3 Yrb3 hr hA'
    rw [hr] at h s1 s2 s3 sV
    dsimp only at h s1 s2 s3 sV
    refine nm_r (nI_1 rd) ?_
    by_cases e : r = -1
    · rw [if_pos e] at h
      obtain ⟨t1, t2⟩ := s2 e
      rw [e]
      exact ih k' (rd + 1) Moutp Mop Mpatp Mpp Mholdp Mhp Mmp Mqp Mstp Mtp Macp active' act' YnAddr3 Ya1K3 Ya1V3 Ya2K3 Ya2V3 Ycc3 YlabS3 YlabL3 YsRe3 YsRep3 YadK3 YadV3 Yneg3 YsG3 YicN3 Yna3 YanS3 YanE3 YmJ3 YrLen3 Yic3 Yie3 YaC3 YaAny3 YaSt3 Yrch3 Ynx3 Yrb3 s1 (by omega) (by omega) (by omega) t1 hA' h
    · rw [if_neg e] at h
      have := h r 0 Moutp Mop Mpatp Mpp Mholdp Mhp Mmp Mqp Mstp Mtp Macp active' act' YnAddr3 Ya1K3 Ya1V3 Ya2K3 Ya2V3 Ycc3 YlabS3 YlabL3 YsRe3 YsRep3 YadK3 YadV3 Yneg3 YsG3 YicN3 Yna3 YanS3 YanE3 YmJ3 YrLen3 Yic3 Yie3 YaC3 YaAny3 YaSt3 Yrch3 Ynx3 Yrb3 rfl (by omega) sV hA'
      have e0 : rn_y r k' = rn_y r 0 := by unfold rn_y; rw [if_neg e, if_neg e]
      rw [e0]
      exact br_c (fun _ => this) (fun _ => br_t (rn_y_neg sV e) this)
theorem rn_in_V (s inp : Nat → Int32) (L I F n : Nat) (qt : Int32) (tg : Nat → Nat) (D : Nat → cm_T) : ∀ g k z, rn_V (rn_in s inp L I F n qt tg D g k z).1 := by
  intro g
  induction g with
  | zero => intro k z; exact Or.inr (Or.inr (Or.inr (Or.inl rfl)))
  | succ g ih =>
    intro k z
    rw [rn_in]
    split
    · exact Or.inl rfl
    · split
      · exact ih _ _
      · exact rn_step_V _ _ _ _ _ _ _ _ _ _
theorem ym_62 {L I F n : Nat} {tg : Nat → Nat} {post : Int32 → SY → Prop} (hL : L ≤ 128) (hc : ch_ok Yscr L) (hI : I ≤ 128) (hF : F ≤ 2048) (hG : cq_G Yscr L n) (hn : n ≤ 16) (hcp : ∀ j, j < n → YcmdPos j = nI (cq_Q Yscr L j)) (htg : ∀ a, a < n → (lb_c Yscr L a = 98 ∨ lb_c Yscr L a = 116) → lb_t Yscr L n a (tg a)) (ht : ∀ k, k < n → tg k ≤ n) :
    ∀ g c Mout Mo Mpat Mp Mhold Mh Mm Mq Mst Mt Mac active act YnAddr1 Ya1K1 Ya1V1 Ya2K1 Ya2V1 Ycc1 YlabS1 YlabL1 YsRe1 YsRep1 YadK1 YadV1 Yneg1 YsG1 YicN1 Yna1 YanS1 YanE1 YmJ1 YrLen1 Yic1 Yie1 YaC1 YaAny1 YaSt1 Yrch1 Ynx1 Yrb1, rn_ok Yinp I F (Mout, Mo, Mpat, Mp, Mhold, Mh, Mm, Mq, Mst, Mt, Mac) → I + 2 - Mq ≤ g → c ≤ Mm → ya_R active act Mac → (∀ r Moutp Mop Mpatp Mpp Mholdp Mhp Mmp Mqp Mstp Mtp Macp active act YnAddr2 Ya1K2 Ya1V2 Ya2K2 Ya2V2 Ycc2 YlabS2 YlabL2 YsRe2 YsRep2 YadK2 YadV2 Yneg2 YsG2 YicN2 Yna2 YanS2 YanE2 YmJ2 YrLen2 Yic2 Yie2 YaC2 YaAny2 YaSt2 Yrch2 Ynx2 Yrb2, rn_out Yscr Yinp L I F n Yquiet tg (cq_D Yscr L) g (Mout, Mo, Mpat, Mp, Mhold, Mh, Mm, Mq, Mst, Mt, Mac) = (r, (Moutp, Mop, Mpatp, Mpp, Mholdp, Mhp, Mmp, Mqp, Mstp, Mtp, Macp)) → post r (Yquiet, nI F, nI L, nI I, YhasTab, nI n, nI Mop, nI Mpp, nI Mhp, nI Mmp, nI Mstp, Mtp, YnAddr2, Ya1K2, Ya1V2, Ya2K2, Ya2V2, Ycc2, YlabS2, YlabL2, YsRe2, YsRep2, YadK2, YadV2, Yneg2, YsG2, YicN2, Yna2, YanS2, YanE2, YmJ2, YrLen2, Yscr, Yinp, YcmdPos, Moutp, Mpatp, Mholdp, active, act, Yic2, Yie2, YaC2, YaAny2, YaSt2, Yrch2, Ynx2, Yrb2)) → wY_run_62 post (g + 1) (nI c) Yquiet (nI F) (nI L) (nI I) YhasTab (nI n) (nI Mo) (nI Mp) (nI Mh) (nI Mm) (nI Mst) Mt YnAddr1 Ya1K1 Ya1V1 Ya2K1 Ya2V1 Ycc1 YlabS1 YlabL1 YsRe1 YsRep1 YadK1 YadV1 Yneg1 YsG1 YicN1 Yna1 YanS1 YanE1 YmJ1 YrLen1 Yscr Yinp YcmdPos Mout Mpat Mhold active act Yic1 Yie1 YaC1 YaAny1 YaSt1 Yrch1 Ynx1 Yrb1 := by
  intro g
  induction g with
  | zero =>
    intro c Mout Mo Mpat Mp Mhold Mh Mm Mq Mst Mt Mac active act YnAddr1 Ya1K1 Ya1V1 Ya2K1 Ya2V1 Ycc1 YlabS1 YlabL1 YsRe1 YsRep1 YadK1 YadV1 Yneg1 YsG1 YicN1 Yna1 YanS1 YanE1 YmJ1 YrLen1 Yic1 Yie1 YaC1 YaAny1 YaSt1 Yrch1 Ynx1 Yrb1 hok hg
    rcases hok.2.2.2.2.1 with ⟨y, _⟩ | ⟨y, _⟩ <;> omega
  | succ g ih =>
  intro c Mout Mo Mpat Mp Mhold Mh Mm Mq Mst Mt Mac active act YnAddr1 Ya1K1 Ya1V1 Ya2K1 Ya2V1 Ycc1 YlabS1 YlabL1 YsRe1 YsRep1 YadK1 YadV1 Yneg1 YsG1 YicN1 Yna1 YanS1 YanE1 YmJ1 YrLen1 Yic1 Yie1 YaC1 YaAny1 YaSt1 Yrch1 Ynx1 Yrb1 hok hg hcm hA h
  have hok0 := hok
  obtain ⟨h1, h2, h3, h4, h5, h6⟩ := hok
  have hm := ln_le h5
  have hkl := ln_kle Yinp I
  have hlt := ln_lt h5
  have hq : Mq ≤ I + 1 := by
    rcases h5 with ⟨y, _⟩ | ⟨y, _⟩ <;> omega
  rw [rn_out] at h
  refine br_f (nI_nlt (a := 129) (by omega) (by decide)) ?_
  have hbeg : rn_beg Yinp I (Mout, Mo, Mpat, Mp, Mhold, Mh, Mm, Mq, Mst, Mt, Mac) = if I ≤ Mq then (0, (Mout, Mo, Mpat, Mp, Mhold, Mh, Mm, Mq, Mst, Mt, Mac)) else if 64 < ln_e Yinp I Mq - Mq then (3, (Mout, Mo, Mpat, Mp, Mhold, Mh, Mm, Mq, Mst, Mt, Mac)) else (-1, (Mout, Mo, cp_y Yinp Mq Mpat 0 (ln_e Yinp I Mq - Mq), ln_e Yinp I Mq - Mq, Mhold, Mh, Mm + 1, ln_e Yinp I Mq + 1, Mst, 0, Mac)) := rfl
  have stop : ∀ r, ¬ r = -1 → rn_cyc Yscr Yinp L I F n Yquiet tg (cq_D Yscr L) (Mout, Mo, Mpat, Mp, Mhold, Mh, Mm, Mq, Mst, Mt, Mac) = (r, (Mout, Mo, Mpat, Mp, Mhold, Mh, Mm, Mq, Mst, Mt, Mac)) → post r (Yquiet, nI F, nI L, nI I, YhasTab, nI n, nI Mo, nI Mp, nI Mh, nI Mm, nI Mst, Mt, YnAddr1, Ya1K1, Ya1V1, Ya2K1, Ya2V1, Ycc1, YlabS1, YlabL1, YsRe1, YsRep1, YadK1, YadV1, Yneg1, YsG1, YicN1, Yna1, YanS1, YanE1, YmJ1, YrLen1, Yscr, Yinp, YcmdPos, Mout, Mpat, Mhold, active, act, Yic1, Yie1, YaC1, YaAny1, YaSt1, Yrch1, Ynx1, Yrb1) := by
    intro r e1 hcy
    rw [hcy] at h
    dsimp only at h
    rw [if_neg e1] at h
    exact h r Mout Mo Mpat Mp Mhold Mh Mm Mq Mst Mt Mac active act YnAddr1 Ya1K1 Ya1V1 Ya2K1 Ya2V1 Ycc1 YlabS1 YlabL1 YsRe1 YsRep1 YadK1 YadV1 Yneg1 YsG1 YicN1 Yna1 YanS1 YanE1 YmJ1 YrLen1 Yic1 Yie1 YaC1 YaAny1 YaSt1 Yrch1 Ynx1 Yrb1 rfl
  refine ym_lineCount hI ?_
  refine pk_lt Mm (ln_k Yinp I) (fun w => ?_) (fun w => ?_)
  · have hqI : Mq < I := by omega
    rw [if_neg (by omega)] at hbeg
    have he := sc_facts (P := pb_n Yinp) (L := I) (q := Mq) (by omega)
    have he1 : Mq ≤ ln_e Yinp I Mq := he.1
    have he2 : ln_e Yinp I Mq ≤ I := he.2.1
    rw [nI_1]
    refine ym_lineLen hI h5 hqI ?_
    refine pk_le (ln_e Yinp I Mq - Mq) 64 (fun y => ?_) (fun y => ?_)
    · rw [if_neg (by omega)] at hbeg
      have hb0 := rn_beg_ok hok0
      rw [hbeg] at hb0
      refine ym_lineStart hI h5 hqI ⟨ln_e Yinp I Mq - Mq + 1, ?_⟩
      suffices h154 : wY_run_154 post (wY_run_62 post (g + 1)) (nI c) (nI (ln_e Yinp I Mq - Mq)) Yquiet (nI F) (nI L) (nI I) YhasTab (nI n) (nI Mo) (nI Mp) (nI Mh) (nI Mm) (nI Mst) Mt YnAddr1 Ya1K1 Ya1V1 Ya2K1 Ya2V1 Ycc1 YlabS1 YlabL1 YsRe1 YsRep1 YadK1 YadV1 Yneg1 YsG1 YicN1 Yna1 YanS1 YanE1 YmJ1 YrLen1 Yscr Yinp YcmdPos Mout (cp_y Yinp Mq Mpat 0 (ln_e Yinp I Mq - Mq)) Mhold active act Yic1 Yie1 YaC1 YaAny1 YaSt1 Yrch1 Ynx1 Yrb1 by
        have loop : ∀ f x, ln_e Yinp I Mq - Mq - x < f → x ≤ ln_e Yinp I Mq - Mq → wY_run_115 post (wY_run_62 post (g + 1)) (nI c) (nI (ln_e Yinp I Mq - Mq)) (nI Mq) Yquiet (nI F) (nI L) (nI I) YhasTab (nI n) (nI Mo) (nI Mp) (nI Mh) (nI Mm) (nI Mst) Mt YnAddr1 Ya1K1 Ya1V1 Ya2K1 Ya2V1 Ycc1 YlabS1 YlabL1 YsRe1 YsRep1 YadK1 YadV1 Yneg1 YsG1 YicN1 Yna1 YanS1 YanE1 YmJ1 YrLen1 f (nI x) Yscr Yinp YcmdPos Mout (cp_y Yinp Mq Mpat 0 x) Mhold active act Yic1 Yie1 YaC1 YaAny1 YaSt1 Yrch1 Ynx1 Yrb1 := by
          intro f
          induction f with
          | zero => intro x h; exact absurd h (Nat.not_lt_zero _)
          | succ f ih2 =>
          intro x hf hx
          refine pk_le (ln_e Yinp I Mq - Mq) x (fun w2 => ?_) (fun w2 => ?_)
          · rw [show x = ln_e Yinp I Mq - Mq by omega]; exact h154
          · rw [nI_add]
            refine br_f (nI_ge (by omega) (by omega)) ⟨vp_in_nI (by omega) (by omega), vp_in_nI (by omega) (by omega), nm_e (nm_r (nI_1 x) ?_)⟩
            rw [nI_clamp (by omega), nI_clamp (by omega)]
            have e := cp_s Yinp Mq Mpat 0 x
            rw [Nat.zero_add] at e
            rw [e]
            exact ih2 (x + 1) (by omega) (by omega)
        have := loop (ln_e Yinp I Mq - Mq + 1) 0 (by omega) (by omega)
        rw [cp_0] at this
        exact this
      refine nm_r (nI_1 Mm) ⟨F + 3, ?_⟩
      refine ym_180 (g := F + 2) hL hc hI hF hG hn hcp htg ht 0 0 Mout Mo _ _ Mhold Mh _ _ Mst 0 Mac active act YnAddr1 Ya1K1 Ya1V1 Ya2K1 Ya2V1 Ycc1 YlabS1 YlabL1 YsRe1 YsRep1 YadK1 YadV1 Yneg1 YsG1 YicN1 Yna1 YanS1 YanE1 YmJ1 YrLen1 Yic1 Yie1 YaC1 YaAny1 YaSt1 Yrch1 Ynx1 Yrb1 hb0.1 (by omega) (by omega) (by omega) (by omega) hA (fun r k' Moutp Mop Mpatp Mpp Mholdp Mhp Mmp Mqp Mstp Mtp Macp active' act' YnAddr2 Ya1K2 Ya1V2 Ya2K2 Ya2V2 Ycc2 YlabS2 YlabL2 YsRe2 YsRep2 YadK2 YadV2 Yneg2 YsG2 YicN2 Yna2 YanS2 YanE2 YmJ2 YrLen2 Yic2 Yie2 YaC2 YaAny2 YaSt2 Yrch2 Ynx2 Yrb2 hin hk' hV hA' => ?_)
      have hcy : rn_cyc Yscr Yinp L I F n Yquiet tg (cq_D Yscr L) (Mout, Mo, Mpat, Mp, Mhold, Mh, Mm, Mq, Mst, Mt, Mac) = rn_end Yquiet r (Moutp, Mop, Mpatp, Mpp, Mholdp, Mhp, Mmp, Mqp, Mstp, Mtp, Macp) := by
        unfold rn_cyc
        rw [hbeg]
        dsimp only
        rw [if_pos rfl, hin]
      have hio := rn_in_ok (s := Yscr) (L := L) (qt := Yquiet) (tg := tg) (D := cq_D Yscr L) ht (F + 2) 0 _ hb0.1
      rw [hin] at hio
      have hco := rn_cyc_ok (s := Yscr) (L := L) (qt := Yquiet) (tg := tg) (D := cq_D Yscr L) ht hok0
      rw [hcy] at h hco
      have hMac : ∀ r' z', rn_end Yquiet r (Moutp, Mop, Mpatp, Mpp, Mholdp, Mhp, Mmp, Mqp, Mstp, Mtp, Macp) = (r', z') → z'.2.2.2.2.2.2.2.2.2.2 = Macp := by
        intro r' z' he
        unfold rn_end at he
        split at he
        · split at he
          · split at he
            · rw [← (Prod.mk.inj he).2]
            · rename_i z'' ez
              unfold rn_print at ez
              dsimp only at ez
              split at ez
              · exact absurd ez (by simp)
              · rw [← (Prod.mk.inj he).2, ← Option.some.inj ez]
          · rw [← (Prod.mk.inj he).2]
        · split at he
          · rw [← (Prod.mk.inj he).2]
          · rw [← (Prod.mk.inj he).2]
      refine ym_216 (Mac := Macp) (Mq := Mqp) hio.1.1 hio.1.2.1 hk' hV (fun Mout2 Mo2 Mpat2 Mp2 Mhold2 Mh2 Mm2 Mq2 Mst2 Mt2 Mac2 hend => ?_) (fun r' Mout2 Mo2 Mpat2 Mp2 Mhold2 Mh2 Mm2 Mq2 Mst2 Mt2 Mac2 e1 hend => ?_)
      · rw [hend] at h hco
        dsimp only at h hco
        rw [if_pos rfl] at h
        obtain ⟨k1, k2⟩ := hco
        have k3 : Mq < I ∧ Mq < Mq2 := k2 rfl
        have em : Mac2 = Macp := hMac _ _ hend
        subst em
        exact ih (c + 1) Mout2 Mo2 Mpat2 Mp2 Mhold2 Mh2 Mm2 Mq2 Mst2 Mt2 Mac2 active' act' YnAddr2 Ya1K2 Ya1V2 Ya2K2 Ya2V2 Ycc2 YlabS2 YlabL2 YsRe2 YsRep2 YadK2 YadV2 Yneg2 YsG2 YicN2 Yna2 YanS2 YanE2 YmJ2 YrLen2 Yic2 Yie2 YaC2 YaAny2 YaSt2 Yrch2 Ynx2 Yrb2 k1 (by omega) (by have := ln_str h5 k1.2.2.2.2.1 k3.2; omega) hA' h
      · rw [hend] at h
        dsimp only at h
        rw [if_neg e1] at h
        exact h r' Mout2 Mo2 Mpat2 Mp2 Mhold2 Mh2 Mm2 Mq2 Mst2 Mt2 Mac2 active' act' YnAddr2 Ya1K2 Ya1V2 Ya2K2 Ya2V2 Ycc2 YlabS2 YlabL2 YsRe2 YsRep2 YadK2 YadV2 Yneg2 YsG2 YicN2 Yna2 YanS2 YanE2 YmJ2 YrLen2 Yic2 Yie2 YaC2 YaAny2 YaSt2 Yrch2 Ynx2 Yrb2 rfl
    · rw [if_pos y] at hbeg
      exact stop 3 (by decide) (by unfold rn_cyc; rw [hbeg]; rfl)
  · rw [if_pos (by omega)] at hbeg
    exact stop 0 (by decide) (by unfold rn_cyc; rw [hbeg]; rfl)
theorem ym_run {L I F n : Nat} {tg : Nat → Nat} {Mac : Nat → Int32} {post : Int32 → SY → Prop} (hL : L ≤ 128) (hc : ch_ok Yscr L) (hI : I ≤ 128) (hF : F ≤ 2048) (hG : cq_G Yscr L n) (hn : n ≤ 16) (hcp : ∀ j, j < n → YcmdPos j = nI (cq_Q Yscr L j)) (htg : ∀ a, a < n → (lb_c Yscr L a = 98 ∨ lb_c Yscr L a = 116) → lb_t Yscr L n a (tg a)) (ht : ∀ k, k < n → tg k ≤ n) (hM : ∀ j, j < 16 → Mac j = 0)
    (h : ∀ r Moutp Mop Mpatp Mpp Mholdp Mhp Mmp Mqp Mstp Mtp Macp active act YnAddr2 Ya1K2 Ya1V2 Ya2K2 Ya2V2 Ycc2 YlabS2 YlabL2 YsRe2 YsRep2 YadK2 YadV2 Yneg2 YsG2 YicN2 Yna2 YanS2 YanE2 YmJ2 YrLen2 Yic2 Yie2 YaC2 YaAny2 YaSt2 Yrch2 Ynx2 Yrb2, rn_out Yscr Yinp L I F n Yquiet tg (cq_D Yscr L) (I + 2) (Yout, 0, Ypat, 0, Yhold, 0, 0, 0, 0, 0, Mac) = (r, (Moutp, Mop, Mpatp, Mpp, Mholdp, Mhp, Mmp, Mqp, Mstp, Mtp, Macp)) → post r (Yquiet, nI F, nI L, nI I, 1, nI n, nI Mop, nI Mpp, nI Mhp, nI Mmp, nI Mstp, Mtp, YnAddr2, Ya1K2, Ya1V2, Ya2K2, Ya2V2, Ycc2, YlabS2, YlabL2, YsRe2, YsRep2, YadK2, YadV2, Yneg2, YsG2, YicN2, Yna2, YanS2, YanE2, YmJ2, YrLen2, Yscr, Yinp, YcmdPos, Moutp, Mpatp, Mholdp, active, act, Yic2, Yie2, YaC2, YaAny2, YaSt2, Yrch2, Ynx2, Yrb2)) :
    wpY_run post (Yquiet, nI F, nI L, nI I, 1, nI n, YoutLen, YpatLen, YholdLen, YlinesRead, YstepsUsed, Ytflag, YnAddr, Ya1K, Ya1V, Ya2K, Ya2V, Ycc, YlabS, YlabL, YsRe, YsRep, YadK, YadV, Yneg, YsG, YicN, Yna, YanS, YanE, YmJ, YrLen, Yscr, Yinp, YcmdPos, Yout, Ypat, Yhold, Yactive, Yact, Yic, Yie, YaC, YaAny, YaSt, Yrch, Ynx, Yrb) := by
  unfold wpY_run
  refine br_f (by decide) ⟨17, ?_⟩
  have loop : ∀ f x active, 16 - x < f → x ≤ 16 → (∀ j, j < x → active j = 0) → wY_run_26 post Yquiet (nI F) (nI L) (nI I) 1 (nI n) 0 0 0 YlinesRead YstepsUsed Ytflag YnAddr Ya1K Ya1V Ya2K Ya2V Ycc YlabS YlabL YsRe YsRep YadK YadV Yneg YsG YicN Yna YanS YanE YmJ YrLen f (nI x) Yscr Yinp YcmdPos Yout Ypat Yhold active Yact Yic Yie YaC YaAny YaSt Yrch Ynx Yrb := by
    intro f
    induction f with
    | zero => intro x active h; exact absurd h (Nat.not_lt_zero _)
    | succ f ih =>
    intro x active hf hx ha
    refine pk_le 16 x (fun w => ⟨I + 2 + 1, ?_⟩) (fun w => ⟨pk_in x 16 w, nm_e (nm_r (nI_1 x) ?_)⟩)
    · exact ym_62 hL hc hI hF hG hn hcp htg ht (I + 2) 0 Yout 0 Ypat 0 Yhold 0 0 0 0 0 Mac active Yact YnAddr Ya1K Ya1V Ya2K Ya2V Ycc YlabS YlabL YsRe YsRep YadK YadV Yneg YsG YicN Yna YanS YanE YmJ YrLen Yic Yie YaC YaAny YaSt Yrch Ynx Yrb ⟨by omega, by omega, by omega, by omega, ln_0 _ _, Or.inl rfl⟩ (by omega) (by omega) (fun j hj => Or.inl ⟨ha j (by omega), hM j hj⟩) h
    · rw [nI_clamp (by omega)]
      refine ih (x + 1) _ (by omega) (by omega) (fun j hj => ?_)
      by_cases z : j = x
      · rw [z, pk_us]; rfl
      · rw [pk_un z]; exact ha j (by omega)
  exact loop 17 0 Yactive (by omega) (by omega) (fun j hj => absurd hj (by omega))
end YR_1
