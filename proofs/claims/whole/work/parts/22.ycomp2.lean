/-! Y's compile: the commands one behind another -/
section YE_1
variable {Yquiet Yfuel YscrLen YinpLen YhasTab YnCmd YoutLen YpatLen YholdLen YlinesRead YstepsUsed Ytflag YnAddr Ya1K Ya1V Ya2K Ya2V Ycc YlabS YlabL YsRe YsRep YadK YadV Yneg YsG YicN Yna YanS YanE YmJ YrLen : Int32} {Yscr Yinp YcmdPos Yout Ypat Yhold Yactive Yact Yic Yie YaC YaAny YaSt Yrch Ynx Yrb : Nat → Int32}
theorem ym_115 {L n : Nat} {post : Int32 → SY → Prop} (hL : L ≤ 128) (hc : ch_ok Yscr L) (hN : cq_N Yscr L n) (hcp : ∀ j, j < n → YcmdPos j = nI (cq_Q Yscr L j))
    (hg : lb_1 Yscr L n ∧ lb_2 Yscr L n → ∀ YnAddr1 Ya1K1 Ya1V1 Ya2K1 Ya2V1 Ycc1 YlabS1 YlabL1 YsRe1 YsRep1 YadK1 YadV1 Yneg1 YsG1 YicN1 Yna1 YanS1 YanE1 YmJ1 YrLen1 Yic1 Yie1 YaC1 YaAny1 YaSt1 Yrch1 Ynx1 Yrb1, post (nI n) (Yquiet, Yfuel, nI L, YinpLen, 1, nI n, YoutLen, YpatLen, YholdLen, YlinesRead, YstepsUsed, Ytflag, YnAddr1, Ya1K1, Ya1V1, Ya2K1, Ya2V1, Ycc1, YlabS1, YlabL1, YsRe1, YsRep1, YadK1, YadV1, Yneg1, YsG1, YicN1, Yna1, YanS1, YanE1, YmJ1, YrLen1, Yscr, Yinp, YcmdPos, Yout, Ypat, Yhold, Yactive, Yact, Yic1, Yie1, YaC1, YaAny1, YaSt1, Yrch1, Ynx1, Yrb1))
    (hb : ¬ (lb_1 Yscr L n ∧ lb_2 Yscr L n) → ∀ YnAddr1 Ya1K1 Ya1V1 Ya2K1 Ya2V1 Ycc1 YlabS1 YlabL1 YsRe1 YsRep1 YadK1 YadV1 Yneg1 YsG1 YicN1 Yna1 YanS1 YanE1 YmJ1 YrLen1 Yic1 Yie1 YaC1 YaAny1 YaSt1 Yrch1 Ynx1 Yrb1, post (-1) (Yquiet, Yfuel, nI L, YinpLen, YhasTab, YnCmd, YoutLen, YpatLen, YholdLen, YlinesRead, YstepsUsed, Ytflag, YnAddr1, Ya1K1, Ya1V1, Ya2K1, Ya2V1, Ycc1, YlabS1, YlabL1, YsRe1, YsRep1, YadK1, YadV1, Yneg1, YsG1, YicN1, Yna1, YanS1, YanE1, YmJ1, YrLen1, Yscr, Yinp, YcmdPos, Yout, Ypat, Yhold, Yactive, Yact, Yic1, Yie1, YaC1, YaAny1, YaSt1, Yrch1, Ynx1, Yrb1)) : wY_compile_115 post (nI n) Yquiet Yfuel (nI L) YinpLen YhasTab YnCmd YoutLen YpatLen YholdLen YlinesRead YstepsUsed Ytflag YnAddr Ya1K Ya1V Ya2K Ya2V Ycc YlabS YlabL YsRe YsRep YadK YadV Yneg YsG YicN Yna YanS YanE YmJ YrLen Yscr Yinp YcmdPos Yout Ypat Yhold Yactive Yact Yic Yie YaC YaAny YaSt Yrch Ynx Yrb := by
  obtain ⟨g1, g2, g3⟩ := hN
  refine br_t (nI_le (b := 16) g3 (by decide)) ?_
  unfold wpY_labelsOk
  exact ⟨n + 1, ym_labelsOk hL hc g1 g3 hcp (fun h => fun YnAddr1 Ya1K1 Ya1V1 Ya2K1 Ya2V1 Ycc1 YlabS1 YlabL1 YsRe1 YsRep1 YadK1 YadV1 Yneg1 YsG1 YicN1 Yna1 YanS1 YanE1 YmJ1 YrLen1 Yic1 Yie1 YaC1 YaAny1 YaSt1 Yrch1 Ynx1 Yrb1 => br_f (by decide) (hg h YnAddr1 Ya1K1 Ya1V1 Ya2K1 Ya2V1 Ycc1 YlabS1 YlabL1 YsRe1 YsRep1 YadK1 YadV1 Yneg1 YsG1 YicN1 Yna1 YanS1 YanE1 YmJ1 YrLen1 Yic1 Yie1 YaC1 YaAny1 YaSt1 Yrch1 Ynx1 Yrb1)) (fun h => fun YnAddr1 Ya1K1 Ya1V1 Ya2K1 Ya2V1 Ycc1 YlabS1 YlabL1 YsRe1 YsRep1 YadK1 YadV1 Yneg1 YsG1 YicN1 Yna1 YanS1 YanE1 YmJ1 YrLen1 Yic1 Yie1 YaC1 YaAny1 YaSt1 Yrch1 Ynx1 Yrb1 => br_t rfl (hb h YnAddr1 Ya1K1 Ya1V1 Ya2K1 Ya2V1 Ycc1 YlabS1 YlabL1 YsRe1 YsRep1 YadK1 YadV1 Yneg1 YsG1 YicN1 Yna1 YanS1 YanE1 YmJ1 YrLen1 Yic1 Yie1 YaC1 YaAny1 YaSt1 Yrch1 Ynx1 Yrb1)) (n + 1) 0 (by omega) (by omega) (fun j hj => absurd hj (by omega)) YnAddr Ya1K Ya1V Ya2K Ya2V Ycc YlabS YlabL YsRe YsRep YadK YadV Yneg YsG YicN Yna YanS YanE YmJ YrLen Yic Yie YaC YaAny YaSt Yrch Ynx Yrb⟩
theorem ym_16 {L : Nat} {post : Int32 → SY → Prop} (hL : L ≤ 128) (hc : ch_ok Yscr L)
    (hg : ∀ n cp, cq_N Yscr L n → lb_1 Yscr L n ∧ lb_2 Yscr L n → (∀ j, j < n → cp j = nI (cq_Q Yscr L j)) → ∀ YnAddr1 Ya1K1 Ya1V1 Ya2K1 Ya2V1 Ycc1 YlabS1 YlabL1 YsRe1 YsRep1 YadK1 YadV1 Yneg1 YsG1 YicN1 Yna1 YanS1 YanE1 YmJ1 YrLen1 Yic1 Yie1 YaC1 YaAny1 YaSt1 Yrch1 Ynx1 Yrb1, post (nI n) (Yquiet, Yfuel, nI L, YinpLen, 1, nI n, YoutLen, YpatLen, YholdLen, YlinesRead, YstepsUsed, Ytflag, YnAddr1, Ya1K1, Ya1V1, Ya2K1, Ya2V1, Ycc1, YlabS1, YlabL1, YsRe1, YsRep1, YadK1, YadV1, Yneg1, YsG1, YicN1, Yna1, YanS1, YanE1, YmJ1, YrLen1, Yscr, Yinp, cp, Yout, Ypat, Yhold, Yactive, Yact, Yic1, Yie1, YaC1, YaAny1, YaSt1, Yrch1, Ynx1, Yrb1))
    (hb : (∀ n, cq_N Yscr L n → ¬ (lb_1 Yscr L n ∧ lb_2 Yscr L n)) → ∀ cp YnAddr1 Ya1K1 Ya1V1 Ya2K1 Ya2V1 Ycc1 YlabS1 YlabL1 YsRe1 YsRep1 YadK1 YadV1 Yneg1 YsG1 YicN1 Yna1 YanS1 YanE1 YmJ1 YrLen1 Yic1 Yie1 YaC1 YaAny1 YaSt1 Yrch1 Ynx1 Yrb1, post (-1) (Yquiet, Yfuel, nI L, YinpLen, 0, 0, YoutLen, YpatLen, YholdLen, YlinesRead, YstepsUsed, Ytflag, YnAddr1, Ya1K1, Ya1V1, Ya2K1, Ya2V1, Ycc1, YlabS1, YlabL1, YsRe1, YsRep1, YadK1, YadV1, Yneg1, YsG1, YicN1, Yna1, YanS1, YanE1, YmJ1, YrLen1, Yscr, Yinp, cp, Yout, Ypat, Yhold, Yactive, Yact, Yic1, Yie1, YaC1, YaAny1, YaSt1, Yrch1, Ynx1, Yrb1)) :
    ∀ f k, L + 1 - k < f → k ≤ L → cq_G Yscr L k → ∀ p, p ≤ L → sc_e (pb_z Yscr) L p = cq_Q Yscr L k → ∀ cp YnAddr1 Ya1K1 Ya1V1 Ya2K1 Ya2V1 Ycc1 YlabS1 YlabL1 YsRe1 YsRep1 YadK1 YadV1 Yneg1 YsG1 YicN1 Yna1 YanS1 YanE1 YmJ1 YrLen1 Yic1 Yie1 YaC1 YaAny1 YaSt1 Yrch1 Ynx1 Yrb1, (∀ j, j < k → j < 16 → cp j = nI (cq_Q Yscr L j)) → wY_compile_16 post f (nI k) (nI p) (nI k) Yquiet Yfuel (nI L) YinpLen 0 0 YoutLen YpatLen YholdLen YlinesRead YstepsUsed Ytflag YnAddr1 Ya1K1 Ya1V1 Ya2K1 Ya2V1 Ycc1 YlabS1 YlabL1 YsRe1 YsRep1 YadK1 YadV1 Yneg1 YsG1 YicN1 Yna1 YanS1 YanE1 YmJ1 YrLen1 Yscr Yinp cp Yout Ypat Yhold Yactive Yact Yic1 Yie1 YaC1 YaAny1 YaSt1 Yrch1 Ynx1 Yrb1 := by
  intro f
  induction f with
  | zero => intro k h; exact absurd h (Nat.not_lt_zero _)
  | succ f ih =>
  intro k hf hkL hG p hp hpq cp YnAddr1 Ya1K1 Ya1V1 Ya2K1 Ya2V1 Ycc1 YlabS1 YlabL1 YsRe1 YsRep1 YadK1 YadV1 Yneg1 YsG1 YicN1 Yna1 YanS1 YanE1 YmJ1 YrLen1 Yic1 Yie1 YaC1 YaAny1 YaSt1 Yrch1 Ynx1 Yrb1 hcp
  have hQ := cq_Q_le Yscr L k
  refine br_f (nI_nlt (a := 128) (b := k) (by omega) (by decide)) ?_
  have h70 : wY_compile_70 post (wY_compile_16 post f) (nI k) (nI (cq_Q Yscr L k)) (nI k) Yquiet Yfuel (nI L) YinpLen 0 0 YoutLen YpatLen YholdLen YlinesRead YstepsUsed Ytflag YnAddr1 Ya1K1 Ya1V1 Ya2K1 Ya2V1 Ycc1 YlabS1 YlabL1 YsRe1 YsRep1 YadK1 YadV1 Yneg1 YsG1 YicN1 Yna1 YanS1 YanE1 YmJ1 YrLen1 Yscr Yinp cp Yout Ypat Yhold Yactive Yact Yic1 Yie1 YaC1 YaAny1 YaSt1 Yrch1 Ynx1 Yrb1 := by
    refine pk_lt (cq_Q Yscr L k) L (fun w => ?_) (fun w => ?_)
    · have h94 : ∀ cp', (∀ j, j < k + 1 → j < 16 → cp' j = nI (cq_Q Yscr L j)) → wY_compile_94 post (wY_compile_16 post f) (nI k) (nI (cq_Q Yscr L k)) (nI k) Yquiet Yfuel (nI L) YinpLen 0 0 YoutLen YpatLen YholdLen YlinesRead YstepsUsed Ytflag YnAddr1 Ya1K1 Ya1V1 Ya2K1 Ya2V1 Ycc1 YlabS1 YlabL1 YsRe1 YsRep1 YadK1 YadV1 Yneg1 YsG1 YicN1 Yna1 YanS1 YanE1 YmJ1 YrLen1 Yscr Yinp cp' Yout Ypat Yhold Yactive Yact Yic1 Yie1 YaC1 YaAny1 YaSt1 Yrch1 Ynx1 Yrb1 := by
        intro cp' hcp'
        refine nm_r (nI_1 k) ?_
        refine ym_pd hL hc (Nat.le_of_lt w) ?_ ?_
        · intro d hx YnAddr2 Ya1K2 Ya1V2 Ya2K2 Ya2V2 Ycc2 YlabS2 YlabL2 YsRe2 YsRep2 YadK2 YadV2 Yneg2 YsG2 YicN2 Yna2 YanS2 YanE2 YmJ2 YrLen2 Yic2 Yie2 YaC2 YaAny2 YaSt2 Yrch2 Ynx2 Yrb2
          have fd := cm_x_f (Nat.le_of_lt w) hx
          have hG' := cq_Gs hG w hx
          have m := (cq_mono (k + 1) hG' k (by omega)).2
          have q1 := cq_Q_le Yscr L (k + 1)
          refine br_t (nI_pos' (by omega)) (nm_r (nI_1 k) ?_)
          exact ih (k + 1) (by omega) (by omega) hG' d.2.2.2 fd.2.1 (cq_s hx).2.symm cp' YnAddr2 Ya1K2 Ya1V2 Ya2K2 Ya2V2 Ycc2 YlabS2 YlabL2 YsRe2 YsRep2 YadK2 YadV2 Yneg2 YsG2 YicN2 Yna2 YanS2 YanE2 YmJ2 YrLen2 Yic2 Yie2 YaC2 YaAny2 YaSt2 Yrch2 Ynx2 Yrb2 hcp'
        · intro hx YnAddr2 Ya1K2 Ya1V2 Ya2K2 Ya2V2 Ycc2 YlabS2 YlabL2 YsRe2 YsRep2 YadK2 YadV2 Yneg2 YsG2 YicN2 Yna2 YanS2 YanE2 YmJ2 YrLen2 Yic2 Yie2 YaC2 YaAny2 YaSt2 Yrch2 Ynx2 Yrb2
          exact br_f (by decide) (hb (fun n h => absurd h (cq_bx hG w hx n)) cp' YnAddr2 Ya1K2 Ya1V2 Ya2K2 Ya2V2 Ycc2 YlabS2 YlabL2 YsRe2 YsRep2 YadK2 YadV2 Yneg2 YsG2 YicN2 Yna2 YanS2 YanE2 YmJ2 YrLen2 Yic2 Yie2 YaC2 YaAny2 YaSt2 Yrch2 Ynx2 Yrb2)
      refine pk_le 16 k (fun w16 => h94 cp (fun j hj h16 => hcp j (by omega) h16)) (fun w16 => ⟨pk_in k 16 (by omega), nm_e ?_⟩)
      rw [nI_clamp (by omega)]
      refine h94 _ (fun j hj h16 => ?_)
      by_cases z : j = k
      · rw [z, pk_us]
      · rw [pk_un z]; exact hcp j (by omega) h16
    · rcases Nat.lt_or_ge 16 k with z | z
      · exact br_f (fun y => absurd ((nI_leI (b := 16) (by omega) (by decide)).mp y) (by omega)) (hb (fun n h => absurd h (cq_bn hG z n)) cp YnAddr1 Ya1K1 Ya1V1 Ya2K1 Ya2V1 Ycc1 YlabS1 YlabL1 YsRe1 YsRep1 YadK1 YadV1 Yneg1 YsG1 YicN1 Yna1 YanS1 YanE1 YmJ1 YrLen1 Yic1 Yie1 YaC1 YaAny1 YaSt1 Yrch1 Ynx1 Yrb1)
      · have hN : cq_N Yscr L k := ⟨hG, w, z⟩
        refine ym_115 hL hc hN (fun j hj => hcp j hj (by omega)) (fun h => hg k cp hN h (fun j hj => hcp j hj (by omega))) (fun h => hb (fun n' hn' => ?_) cp)
        have e : n' = k := by
          rcases Nat.lt_trichotomy n' k with y | y | y
          · have := (hG n' y).1; have := hn'.2.1; omega
          · exact y
          · have := (hn'.1 k y).1; omega
        rw [e]; exact h
  refine ⟨L - p + 1, ?_⟩
  rw [← hpq] at h70
  refine sc_loop (fun n q => wY_compile_23 post (wY_compile_16 post f) (nI k) (nI k) Yquiet Yfuel (nI L) YinpLen 0 0 YoutLen YpatLen YholdLen YlinesRead YstepsUsed Ytflag YnAddr1 Ya1K1 Ya1V1 Ya2K1 Ya2V1 Ycc1 YlabS1 YlabL1 YsRe1 YsRep1 YadK1 YadV1 Yneg1 YsG1 YicN1 Yna1 YanS1 YanE1 YmJ1 YrLen1 Yscr Yinp cp Yout Ypat Yhold Yactive Yact Yic1 Yie1 YaC1 YaAny1 YaSt1 Yrch1 Ynx1 Yrb1 n (nI q)) (pb_z Yscr) L (fun q => wY_compile_70 post (wY_compile_16 post f) (nI k) (nI q) (nI k) Yquiet Yfuel (nI L) YinpLen 0 0 YoutLen YpatLen YholdLen YlinesRead YstepsUsed Ytflag YnAddr1 Ya1K1 Ya1V1 Ya2K1 Ya2V1 Ycc1 YlabS1 YlabL1 YsRe1 YsRep1 YadK1 YadV1 Yneg1 YsG1 YicN1 Yna1 YanS1 YanE1 YmJ1 YrLen1 Yscr Yinp cp Yout Ypat Yhold Yactive Yact Yic1 Yie1 YaC1 YaAny1 YaSt1 Yrch1 Ynx1 Yrb1) ?_ ?_ (L - p + 1) p hp (by omega) h70
  · intro n q hq hp hW
    have hp := of_decide_eq_true hp
    have hi : vp_in (nI q) 128 := pk_in q 128 (by omega)
    refine br_f (nI_ge hq (by omega)) ⟨hi, ?_⟩
    rw [nI_clamp (by omega)]
    refine br_c (fun _ => nm_r (nI_1 q) hW) (fun h1 => ⟨hi, br_c (fun _ => nm_r (nI_1 q) hW) (fun h2 => ⟨hi, br_t ?_ (nm_r (nI_1 q) hW)⟩)⟩)
    rcases hp with z | z | z
    · exact absurd z h1
    · exact absurd z h2
    · exact z
  · intro n q hq hp hR
    have hi : q < L → vp_in (nI q) 128 := fun g => pk_in q 128 (by omega)
    refine pk_le L q (fun g => hR) (fun g => ⟨hi g, ?_⟩)
    have hp := of_decide_eq_false (hp g)
    rw [nI_clamp (by omega)]
    exact br_f (fun z => hp (Or.inl z)) ⟨hi g, br_f (fun z => hp (Or.inr (Or.inl z))) ⟨hi g, br_f (fun z => hp (Or.inr (Or.inr z))) hR⟩⟩
theorem ym_compile {L : Nat} {post : Int32 → SY → Prop} (hL : L ≤ 128) (hc : ch_ok Yscr L)
    (hg : ∀ n cp, cq_N Yscr L n → lb_1 Yscr L n ∧ lb_2 Yscr L n → (∀ j, j < n → cp j = nI (cq_Q Yscr L j)) → ∀ YnAddr1 Ya1K1 Ya1V1 Ya2K1 Ya2V1 Ycc1 YlabS1 YlabL1 YsRe1 YsRep1 YadK1 YadV1 Yneg1 YsG1 YicN1 Yna1 YanS1 YanE1 YmJ1 YrLen1 Yic1 Yie1 YaC1 YaAny1 YaSt1 Yrch1 Ynx1 Yrb1, post (nI n) (Yquiet, Yfuel, nI L, YinpLen, 1, nI n, YoutLen, YpatLen, YholdLen, YlinesRead, YstepsUsed, Ytflag, YnAddr1, Ya1K1, Ya1V1, Ya2K1, Ya2V1, Ycc1, YlabS1, YlabL1, YsRe1, YsRep1, YadK1, YadV1, Yneg1, YsG1, YicN1, Yna1, YanS1, YanE1, YmJ1, YrLen1, Yscr, Yinp, cp, Yout, Ypat, Yhold, Yactive, Yact, Yic1, Yie1, YaC1, YaAny1, YaSt1, Yrch1, Ynx1, Yrb1))
    (hb : (∀ n, cq_N Yscr L n → ¬ (lb_1 Yscr L n ∧ lb_2 Yscr L n)) → ∀ cp YnAddr1 Ya1K1 Ya1V1 Ya2K1 Ya2V1 Ycc1 YlabS1 YlabL1 YsRe1 YsRep1 YadK1 YadV1 Yneg1 YsG1 YicN1 Yna1 YanS1 YanE1 YmJ1 YrLen1 Yic1 Yie1 YaC1 YaAny1 YaSt1 Yrch1 Ynx1 Yrb1, post (-1) (Yquiet, Yfuel, nI L, YinpLen, 0, 0, YoutLen, YpatLen, YholdLen, YlinesRead, YstepsUsed, Ytflag, YnAddr1, Ya1K1, Ya1V1, Ya2K1, Ya2V1, Ycc1, YlabS1, YlabL1, YsRe1, YsRep1, YadK1, YadV1, Yneg1, YsG1, YicN1, Yna1, YanS1, YanE1, YmJ1, YrLen1, Yscr, Yinp, cp, Yout, Ypat, Yhold, Yactive, Yact, Yic1, Yie1, YaC1, YaAny1, YaSt1, Yrch1, Ynx1, Yrb1)) :
    wpY_compile post (Yquiet, Yfuel, nI L, YinpLen, YhasTab, YnCmd, YoutLen, YpatLen, YholdLen, YlinesRead, YstepsUsed, Ytflag, YnAddr, Ya1K, Ya1V, Ya2K, Ya2V, Ycc, YlabS, YlabL, YsRe, YsRep, YadK, YadV, Yneg, YsG, YicN, Yna, YanS, YanE, YmJ, YrLen, Yscr, Yinp, YcmdPos, Yout, Ypat, Yhold, Yactive, Yact, Yic, Yie, YaC, YaAny, YaSt, Yrch, Ynx, Yrb) := by
  unfold wpY_compile
  exact ⟨L + 2, ym_16 hL hc hg hb (L + 2) 0 (by omega) (by omega) (fun j hj => absurd hj (by omega)) 0 (by omega) rfl YcmdPos YnAddr Ya1K Ya1V Ya2K Ya2V Ycc YlabS YlabL YsRe YsRep YadK YadV Yneg YsG YicN Yna YanS YanE YmJ YrLen Yic Yie YaC YaAny YaSt Yrch Ynx Yrb (fun j hj => absurd hj (by omega))⟩
end YE_1
