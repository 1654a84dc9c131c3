/-! Y's compile -/
section YD_1
variable {Yquiet Yfuel YscrLen YinpLen YhasTab YnCmd YoutLen YpatLen YholdLen YlinesRead YstepsUsed Ytflag YnAddr Ya1K Ya1V Ya2K Ya2V Ycc YlabS YlabL YsRe YsRep YadK YadV Yneg YsG YicN Yna YanS YanE YmJ YrLen : Int32} {Yscr Yinp YcmdPos Yout Ypat Yhold Yactive Yact Yic Yie YaC YaAny YaSt Yrch Ynx Yrb : Nat → Int32}
/-- Y's fields hold the parse d -/
def yc_h (nAddr a1K a1V a2K a2V cc labS labL sRe sRep neg sG : Int32) (d : cm_T) : Prop := nAddr = nI d.1.1 ∧ (¬ d.1.1 = 0 → a1K = nI d.1.2.1.1 ∧ a1V = d.1.2.1.2) ∧ (d.1.1 = 2 → a2K = nI d.1.2.2.1.1 ∧ a2V = d.1.2.2.1.2) ∧ neg = d.1.2.2.2.1 ∧ cc = d.2.1 ∧ labS = nI d.2.2.1.1.1 ∧ labL = nI d.2.2.1.1.2 ∧ (d.2.1 = 115 → sRe = nI d.2.2.1.2.1.1 ∧ sRep = nI d.2.2.1.2.1.2.1) ∧ sG = d.2.2.1.2.1.2.2.2
theorem ym_pc {L q : Nat} {d : cm_T} {post : Int32 → SY → Prop} (hL : L ≤ 128) (hc : ch_ok Yscr L) (hq : q ≤ L) (hx : cm_x Yscr L q = some d)
    (h : ∀ YnAddr2 Ya1K2 Ya1V2 Ya2K2 Ya2V2 Ycc2 YlabS2 YlabL2 YsRe2 YsRep2 YadK2 YadV2 Yneg2 YsG2 YicN2 Yna2 YanS2 YanE2 YmJ2 YrLen2 Yic2 Yie2 YaC2 YaAny2 YaSt2 Yrch2 Ynx2 Yrb2, yc_h YnAddr2 Ya1K2 Ya1V2 Ya2K2 Ya2V2 Ycc2 YlabS2 YlabL2 YsRe2 YsRep2 Yneg2 YsG2 d → post (nI d.2.2.2) (Yquiet, Yfuel, nI L, YinpLen, YhasTab, YnCmd, YoutLen, YpatLen, YholdLen, YlinesRead, YstepsUsed, Ytflag, YnAddr2, Ya1K2, Ya1V2, Ya2K2, Ya2V2, Ycc2, YlabS2, YlabL2, YsRe2, YsRep2, YadK2, YadV2, Yneg2, YsG2, YicN2, Yna2, YanS2, YanE2, YmJ2, YrLen2, Yscr, Yinp, YcmdPos, Yout, Ypat, Yhold, Yactive, Yact, Yic2, Yie2, YaC2, YaAny2, YaSt2, Yrch2, Ynx2, Yrb2)) : wpY_parseCmd post (Yquiet, Yfuel, nI L, YinpLen, YhasTab, YnCmd, YoutLen, YpatLen, YholdLen, YlinesRead, YstepsUsed, Ytflag, YnAddr, Ya1K, Ya1V, Ya2K, Ya2V, Ycc, YlabS, YlabL, YsRe, YsRep, YadK, YadV, Yneg, YsG, YicN, Yna, YanS, YanE, YmJ, YrLen, Yscr, Yinp, YcmdPos, Yout, Ypat, Yhold, Yactive, Yact, Yic, Yie, YaC, YaAny, YaSt, Yrch, Ynx, Yrb) (nI q) := by
  refine ym_parseCmd hL hc hq (fun d' v' hx' hv' hH => ?_) (fun hx' => ?_)
  · rw [hx] at hx'
    rw [← Option.some.inj hx'] at hH ⊢
    obtain ⟨Yquiet1, Yfuel1, YscrLen1, YinpLen1, YhasTab1, YnCmd1, YoutLen1, YpatLen1, YholdLen1, YlinesRead1, YstepsUsed1, Ytflag1, YnAddr1, Ya1K1, Ya1V1, Ya2K1, Ya2V1, Ycc1, YlabS1, YlabL1, YsRe1, YsRep1, YadK1, YadV1, Yneg1, YsG1, YicN1, Yna1, YanS1, YanE1, YmJ1, YrLen1, Yscr1, Yinp1, YcmdPos1, Yout1, Ypat1, Yhold1, Yactive1, Yact1, Yic1, Yie1, YaC1, YaAny1, YaSt1, Yrch1, Ynx1, Yrb1⟩ := v'
    unfold yk_p at hv'
    simp only [Prod.mk.injEq] at hv'
    obtain ⟨rfl, rfl, rfl, rfl, rfl, rfl, rfl, rfl, rfl, rfl, rfl, rfl, rfl, rfl, rfl, rfl, rfl, rfl, rfl, rfl⟩ := hv'
    exact h YnAddr1 Ya1K1 Ya1V1 Ya2K1 Ya2V1 Ycc1 YlabS1 YlabL1 YsRe1 YsRep1 YadK1 YadV1 Yneg1 YsG1 YicN1 Yna1 YanS1 YanE1 YmJ1 YrLen1 Yic1 Yie1 YaC1 YaAny1 YaSt1 Yrch1 Ynx1 Yrb1 hH
  · rw [hx] at hx'
    exact absurd hx' (by simp)
/-- the same for a parse that fails or not -/
theorem ym_pd {L q : Nat} {post : Int32 → SY → Prop} (hL : L ≤ 128) (hc : ch_ok Yscr L) (hq : q ≤ L)
    (h : ∀ d, cm_x Yscr L q = some d → ∀ YnAddr2 Ya1K2 Ya1V2 Ya2K2 Ya2V2 Ycc2 YlabS2 YlabL2 YsRe2 YsRep2 YadK2 YadV2 Yneg2 YsG2 YicN2 Yna2 YanS2 YanE2 YmJ2 YrLen2 Yic2 Yie2 YaC2 YaAny2 YaSt2 Yrch2 Ynx2 Yrb2, post (nI d.2.2.2) (Yquiet, Yfuel, nI L, YinpLen, YhasTab, YnCmd, YoutLen, YpatLen, YholdLen, YlinesRead, YstepsUsed, Ytflag, YnAddr2, Ya1K2, Ya1V2, Ya2K2, Ya2V2, Ycc2, YlabS2, YlabL2, YsRe2, YsRep2, YadK2, YadV2, Yneg2, YsG2, YicN2, Yna2, YanS2, YanE2, YmJ2, YrLen2, Yscr, Yinp, YcmdPos, Yout, Ypat, Yhold, Yactive, Yact, Yic2, Yie2, YaC2, YaAny2, YaSt2, Yrch2, Ynx2, Yrb2))
    (hb : cm_x Yscr L q = none → ∀ YnAddr2 Ya1K2 Ya1V2 Ya2K2 Ya2V2 Ycc2 YlabS2 YlabL2 YsRe2 YsRep2 YadK2 YadV2 Yneg2 YsG2 YicN2 Yna2 YanS2 YanE2 YmJ2 YrLen2 Yic2 Yie2 YaC2 YaAny2 YaSt2 Yrch2 Ynx2 Yrb2, post (-1) (Yquiet, Yfuel, nI L, YinpLen, YhasTab, YnCmd, YoutLen, YpatLen, YholdLen, YlinesRead, YstepsUsed, Ytflag, YnAddr2, Ya1K2, Ya1V2, Ya2K2, Ya2V2, Ycc2, YlabS2, YlabL2, YsRe2, YsRep2, YadK2, YadV2, Yneg2, YsG2, YicN2, Yna2, YanS2, YanE2, YmJ2, YrLen2, Yscr, Yinp, YcmdPos, Yout, Ypat, Yhold, Yactive, Yact, Yic2, Yie2, YaC2, YaAny2, YaSt2, Yrch2, Ynx2, Yrb2)) : wpY_parseCmd post (Yquiet, Yfuel, nI L, YinpLen, YhasTab, YnCmd, YoutLen, YpatLen, YholdLen, YlinesRead, YstepsUsed, Ytflag, YnAddr, Ya1K, Ya1V, Ya2K, Ya2V, Ycc, YlabS, YlabL, YsRe, YsRep, YadK, YadV, Yneg, YsG, YicN, Yna, YanS, YanE, YmJ, YrLen, Yscr, Yinp, YcmdPos, Yout, Ypat, Yhold, Yactive, Yact, Yic, Yie, YaC, YaAny, YaSt, Yrch, Ynx, Yrb) (nI q) := by
  refine ym_parseCmd hL hc hq (fun d' v' hx' hv' hH => ?_) (fun hx' v' hv' => ?_)
  · obtain ⟨Yquiet1, Yfuel1, YscrLen1, YinpLen1, YhasTab1, YnCmd1, YoutLen1, YpatLen1, YholdLen1, YlinesRead1, YstepsUsed1, Ytflag1, YnAddr1, Ya1K1, Ya1V1, Ya2K1, Ya2V1, Ycc1, YlabS1, YlabL1, YsRe1, YsRep1, YadK1, YadV1, Yneg1, YsG1, YicN1, Yna1, YanS1, YanE1, YmJ1, YrLen1, Yscr1, Yinp1, YcmdPos1, Yout1, Ypat1, Yhold1, Yactive1, Yact1, Yic1, Yie1, YaC1, YaAny1, YaSt1, Yrch1, Ynx1, Yrb1⟩ := v'
    unfold yk_p at hv'
    simp only [Prod.mk.injEq] at hv'
    obtain ⟨rfl, rfl, rfl, rfl, rfl, rfl, rfl, rfl, rfl, rfl, rfl, rfl, rfl, rfl, rfl, rfl, rfl, rfl, rfl, rfl⟩ := hv'
    exact h d' hx' YnAddr1 Ya1K1 Ya1V1 Ya2K1 Ya2V1 Ycc1 YlabS1 YlabL1 YsRe1 YsRep1 YadK1 YadV1 Yneg1 YsG1 YicN1 Yna1 YanS1 YanE1 YmJ1 YrLen1 Yic1 Yie1 YaC1 YaAny1 YaSt1 Yrch1 Ynx1 Yrb1
  · obtain ⟨Yquiet1, Yfuel1, YscrLen1, YinpLen1, YhasTab1, YnCmd1, YoutLen1, YpatLen1, YholdLen1, YlinesRead1, YstepsUsed1, Ytflag1, YnAddr1, Ya1K1, Ya1V1, Ya2K1, Ya2V1, Ycc1, YlabS1, YlabL1, YsRe1, YsRep1, YadK1, YadV1, Yneg1, YsG1, YicN1, Yna1, YanS1, YanE1, YmJ1, YrLen1, Yscr1, Yinp1, YcmdPos1, Yout1, Ypat1, Yhold1, Yactive1, Yact1, Yic1, Yie1, YaC1, YaAny1, YaSt1, Yrch1, Ynx1, Yrb1⟩ := v'
    unfold yk_p at hv'
    simp only [Prod.mk.injEq] at hv'
    obtain ⟨rfl, rfl, rfl, rfl, rfl, rfl, rfl, rfl, rfl, rfl, rfl, rfl, rfl, rfl, rfl, rfl, rfl, rfl, rfl, rfl⟩ := hv'
    exact hb hx' YnAddr1 Ya1K1 Ya1V1 Ya2K1 Ya2V1 Ycc1 YlabS1 YlabL1 YsRe1 YsRep1 YadK1 YadV1 Yneg1 YsG1 YicN1 Yna1 YanS1 YanE1 YmJ1 YrLen1 Yic1 Yie1 YaC1 YaAny1 YaSt1 Yrch1 Ynx1 Yrb1
theorem ym_labEq {L a la b lb : Nat} {post : Int32 → Prop} (hL : L ≤ 128) (ha : a + la ≤ L) (hb : b + lb ≤ L) (h1 : lb_E Yscr a la b lb → post 1) (h0 : ¬ lb_E Yscr a la b lb → post 0) : wpY_labEq post (Yquiet, Yfuel, nI L, YinpLen, YhasTab, YnCmd, YoutLen, YpatLen, YholdLen, YlinesRead, YstepsUsed, Ytflag, YnAddr, Ya1K, Ya1V, Ya2K, Ya2V, Ycc, YlabS, YlabL, YsRe, YsRep, YadK, YadV, Yneg, YsG, YicN, Yna, YanS, YanE, YmJ, YrLen, Yscr, Yinp, YcmdPos, Yout, Ypat, Yhold, Yactive, Yact, Yic, Yie, YaC, YaAny, YaSt, Yrch, Ynx, Yrb) (nI a) (nI la) (nI b) (nI lb) := by
  unfold wpY_labEq
  refine pk_eq la lb (fun e => ⟨la + 1, ?_⟩) (fun e => h0 (fun y => e y.1))
  have loop : ∀ f j, la - j < f → j ≤ la → (∀ i, i < j → Yscr (a + i) = Yscr (b + i)) → wY_labEq_11 post (nI a) (nI la) (nI b) Yquiet Yfuel (nI L) YinpLen YhasTab YnCmd YoutLen YpatLen YholdLen YlinesRead YstepsUsed Ytflag YnAddr Ya1K Ya1V Ya2K Ya2V Ycc YlabS YlabL YsRe YsRep YadK YadV Yneg YsG YicN Yna YanS YanE YmJ YrLen Yscr Yinp YcmdPos Yout Ypat Yhold Yactive Yact Yic Yie YaC YaAny YaSt Yrch Ynx Yrb f (nI j) := by
    intro f
    induction f with
    | zero => intro j h; omega
    | succ f ih =>
    intro j hf hj hi
    refine pk_le la j (fun w => h1 ⟨e, fun i hi' => hi i (by omega)⟩) (fun w => ?_)
    rw [nI_add, nI_add]
    refine br_f (nI_pos (by omega)) (br_f (nI_pos (by omega)) (br_f (nI_ge (by omega) (by omega)) (br_t (nI_lt (by omega) (by omega)) ⟨vp_in_nI (by omega) (by omega), vp_in_nI (by omega) (by omega), ?_⟩)))
    rw [nI_clamp (by omega), nI_clamp (by omega)]
    refine br_c (fun y => nm_r (nI_1 j) (ih (j + 1) (by omega) (by omega) (fun i hi' => ?_))) (fun y => h0 (fun w' => y (w'.2 j (by omega))))
    by_cases z : i = j
    · rw [z]; exact y
    · exact hi i (by omega)
  exact loop _ 0 (by omega) (by omega) (fun i hi => absurd hi (by omega))
/-- what Y's check of the labels asks of command a -/
def lb_y (s : Nat → Int32) (L n a : Nat) : Prop := ¬ lb_l s L a = 0 → ((lb_c s L a = 58 → ∀ b, b < n → ¬ b = a → lb_c s L b = 58 → ¬ lb_q s L a b) ∧ (¬ lb_c s L a = 58 → ∃ b, b < n ∧ ¬ b = a ∧ lb_c s L b = 58 ∧ lb_q s L a b))
theorem lb_yy {s : Nat → Int32} {L n : Nat} (hG : cq_G s L n) : (∀ a, a < n → lb_y s L n a) ↔ (lb_1 s L n ∧ lb_2 s L n) := by
  constructor
  · intro h
    refine ⟨fun a b ha hb hab ca cb => ?_, fun a ha ca hl => ?_⟩
    · have f := (lb_f hG ha).2.2.1 ca
      exact (h a ha (by omega)).1 ca b hb (fun e => hab e.symm) cb
    · have n58 : ¬ lb_c s L a = 58 := fun y => by
        rw [y] at ca
        rcases ca with z | z <;> exact absurd z (by decide)
      obtain ⟨b, b1, b2, b3, b4⟩ := (h a ha hl).2 n58
      exact ⟨b, b1, b3, b4⟩
  · intro ⟨h1, h2⟩ a ha hl
    refine ⟨fun ca b hb hab cb => h1 a b ha hb (fun e => hab e.symm) ca cb, fun ca => ?_⟩
    have c2 : lb_c s L a = 98 ∨ lb_c s L a = 116 := by
      by_cases z : lb_c s L a = 98
      · exact Or.inl z
      · by_cases y : lb_c s L a = 116
        · exact Or.inr y
        · exact absurd ((lb_f hG ha).2.2.2 (fun w => by
            rcases w with w | w | w
            · exact ca w
            · exact z w
            · exact y w)) hl
    obtain ⟨b, b1, b2, b3⟩ := h2 a ha c2 hl
    exact ⟨b, b1, fun e => by rw [e] at b2; exact ca b2, b2, b3⟩
theorem ym_55 {L n a : Nat} {post : Int32 → SY → Prop} {J : Nat} (hL : L ≤ 128) (hc : ch_ok Yscr L) (hG : cq_G Yscr L n) (hn : n ≤ 16) (hcp : ∀ j, j < n → YcmdPos j = nI (cq_Q Yscr L j)) (ha : a < n) (hl : ¬ lb_l Yscr L a = 0)
    (hg : lb_y Yscr L n a → ∀ YnAddr1 Ya1K1 Ya1V1 Ya2K1 Ya2V1 Ycc1 YlabS1 YlabL1 YsRe1 YsRep1 YadK1 YadV1 Yneg1 YsG1 YicN1 Yna1 YanS1 YanE1 YmJ1 YrLen1 Yic1 Yie1 YaC1 YaAny1 YaSt1 Yrch1 Ynx1 Yrb1, wY_labelsOk_2 post (nI n) J (nI (a + 1)) Yquiet Yfuel (nI L) YinpLen YhasTab YnCmd YoutLen YpatLen YholdLen YlinesRead YstepsUsed Ytflag YnAddr1 Ya1K1 Ya1V1 Ya2K1 Ya2V1 Ycc1 YlabS1 YlabL1 YsRe1 YsRep1 YadK1 YadV1 Yneg1 YsG1 YicN1 Yna1 YanS1 YanE1 YmJ1 YrLen1 Yscr Yinp YcmdPos Yout Ypat Yhold Yactive Yact Yic1 Yie1 YaC1 YaAny1 YaSt1 Yrch1 Ynx1 Yrb1)
    (hb : ¬ lb_y Yscr L n a → ∀ YnAddr1 Ya1K1 Ya1V1 Ya2K1 Ya2V1 Ycc1 YlabS1 YlabL1 YsRe1 YsRep1 YadK1 YadV1 Yneg1 YsG1 YicN1 Yna1 YanS1 YanE1 YmJ1 YrLen1 Yic1 Yie1 YaC1 YaAny1 YaSt1 Yrch1 Ynx1 Yrb1, post 0 (Yquiet, Yfuel, nI L, YinpLen, YhasTab, YnCmd, YoutLen, YpatLen, YholdLen, YlinesRead, YstepsUsed, Ytflag, YnAddr1, Ya1K1, Ya1V1, Ya2K1, Ya2V1, Ycc1, YlabS1, YlabL1, YsRe1, YsRep1, YadK1, YadV1, Yneg1, YsG1, YicN1, Yna1, YanS1, YanE1, YmJ1, YrLen1, Yscr, Yinp, YcmdPos, Yout, Ypat, Yhold, Yactive, Yact, Yic1, Yie1, YaC1, YaAny1, YaSt1, Yrch1, Ynx1, Yrb1)) :
    ∀ f b, n - b < f → b ≤ n → ∀ x6 YnAddr1 Ya1K1 Ya1V1 Ya2K1 Ya2V1 Ycc1 YlabS1 YlabL1 YsRe1 YsRep1 YadK1 YadV1 Yneg1 YsG1 YicN1 Yna1 YanS1 YanE1 YmJ1 YrLen1 Yic1 Yie1 YaC1 YaAny1 YaSt1 Yrch1 Ynx1 Yrb1, ((x6 = 0 ∧ ∀ j, j < b → ¬ j = a → lb_c Yscr L j = 58 → ¬ lb_q Yscr L a j) ∨ (x6 = 1 ∧ ∃ j, j < b ∧ ¬ j = a ∧ lb_c Yscr L j = 58 ∧ lb_q Yscr L a j)) → wY_labelsOk_55 post (wY_labelsOk_2 post (nI n) J) (nI n) (nI a) (lb_c Yscr L a) (nI (lb_s Yscr L a)) (nI (lb_l Yscr L a)) f x6 (nI b) Yquiet Yfuel (nI L) YinpLen YhasTab YnCmd YoutLen YpatLen YholdLen YlinesRead YstepsUsed Ytflag YnAddr1 Ya1K1 Ya1V1 Ya2K1 Ya2V1 Ycc1 YlabS1 YlabL1 YsRe1 YsRep1 YadK1 YadV1 Yneg1 YsG1 YicN1 Yna1 YanS1 YanE1 YmJ1 YrLen1 Yscr Yinp YcmdPos Yout Ypat Yhold Yactive Yact Yic1 Yie1 YaC1 YaAny1 YaSt1 Yrch1 Ynx1 Yrb1 := by
  intro f
  induction f with
  | zero => intro b h; exact absurd h (Nat.not_lt_zero _)
  | succ f ih =>
  intro b hf hbn x6 YnAddr1 Ya1K1 Ya1V1 Ya2K1 Ya2V1 Ycc1 YlabS1 YlabL1 YsRe1 YsRep1 YadK1 YadV1 Yneg1 YsG1 YicN1 Yna1 YanS1 YanE1 YmJ1 YrLen1 Yic1 Yie1 YaC1 YaAny1 YaSt1 Yrch1 Ynx1 Yrb1 hx6
  refine pk_le n b (fun w => ?_) (fun w => br_f (nI_ge (b := 16) (by omega) (by decide)) ?_)
  · have e : b = n := by omega
    subst e
    have g := fun h => hg h YnAddr1 Ya1K1 Ya1V1 Ya2K1 Ya2V1 Ycc1 YlabS1 YlabL1 YsRe1 YsRep1 YadK1 YadV1 Yneg1 YsG1 YicN1 Yna1 YanS1 YanE1 YmJ1 YrLen1 Yic1 Yie1 YaC1 YaAny1 YaSt1 Yrch1 Ynx1 Yrb1
    have bd := fun h => hb h YnAddr1 Ya1K1 Ya1V1 Ya2K1 Ya2V1 Ycc1 YlabS1 YlabL1 YsRe1 YsRep1 YadK1 YadV1 Yneg1 YsG1 YicN1 Yna1 YanS1 YanE1 YmJ1 YrLen1 Yic1 Yie1 YaC1 YaAny1 YaSt1 Yrch1 Ynx1 Yrb1
    refine br_c (fun c58 => ?_) (fun c58 => br_f c58 ?_)
    · rcases hx6 with ⟨x0, hh⟩ | ⟨x1, j, j1, j2, j3, j4⟩
      · exact br_t x0 (br_t c58 (nm_r (nI_1 a) (g (fun _ => ⟨fun _ b hb hab cb => hh b hb hab cb, fun y => absurd c58 y⟩))))
      · exact br_f (by rw [x1]; decide) (bd (fun y => (y hl).1 c58 j j1 j2 j3 j4))
    · rcases hx6 with ⟨x0, hh⟩ | ⟨x1, j, j1, j2, j3, j4⟩
      · refine br_t x0 (bd (fun y => ?_))
        obtain ⟨j, j1, j2, j3, j4⟩ := (y hl).2 c58
        exact hh j j1 j2 j3 j4
      · exact br_f (by rw [x1]; decide) (nm_r (nI_1 a) (g (fun _ => ⟨fun y => absurd y c58, fun _ => ⟨j, j1, j2, j3, j4⟩⟩)))
  · refine pk_eq b a (fun e => nm_r (nI_1 b) ?_) (fun e => ⟨pk_in b 16 (by omega), ?_⟩)
    · refine ih (b + 1) (by omega) (by omega) x6 YnAddr1 Ya1K1 Ya1V1 Ya2K1 Ya2V1 Ycc1 YlabS1 YlabL1 YsRe1 YsRep1 YadK1 YadV1 Yneg1 YsG1 YicN1 Yna1 YanS1 YanE1 YmJ1 YrLen1 Yic1 Yie1 YaC1 YaAny1 YaSt1 Yrch1 Ynx1 Yrb1 ?_
      rcases hx6 with ⟨x0, hh⟩ | ⟨x1, j, j1, j2, j3, j4⟩
      · refine Or.inl ⟨x0, fun j hj => ?_⟩
        by_cases z : j = b
        · intro y; exact absurd (z.trans e) y
        · exact hh j (by omega)
      · exact Or.inr ⟨x1, j, by omega, j2, j3, j4⟩
    · obtain ⟨g1, g2⟩ := hG b w
      rw [nI_clamp (by omega), hcp b w]
      refine ym_pc hL hc (Nat.le_of_lt g1) g2 ?_
      intro YnAddr2 Ya1K2 Ya1V2 Ya2K2 Ya2V2 Ycc2 YlabS2 YlabL2 YsRe2 YsRep2 YadK2 YadV2 Yneg2 YsG2 YicN2 Yna2 YanS2 YanE2 YmJ2 YrLen2 Yic2 Yie2 YaC2 YaAny2 YaSt2 Yrch2 Ynx2 Yrb2 hH
      obtain ⟨y1, y2, y3, y4, y5, y6, y7, y8, y9⟩ := hH
      subst y5 y6 y7
      have fa := lb_f hG ha
      have fb := lb_f hG w
      have keep : ¬ (lb_c Yscr L b = 58 ∧ lb_q Yscr L a b) → ((x6 = 0 ∧ ∀ j, j < b + 1 → ¬ j = a → lb_c Yscr L j = 58 → ¬ lb_q Yscr L a j) ∨ (x6 = 1 ∧ ∃ j, j < b + 1 ∧ ¬ j = a ∧ lb_c Yscr L j = 58 ∧ lb_q Yscr L a j)) := by
        intro hh
        rcases hx6 with ⟨x0, h0⟩ | ⟨x1, j, j1, j2, j3, j4⟩
        · refine Or.inl ⟨x0, fun j hj ja jc jq => ?_⟩
          by_cases z : j = b
          · rw [z] at jc jq; exact hh ⟨jc, jq⟩
          · exact h0 j (by omega) ja jc jq
        · exact Or.inr ⟨x1, j, by omega, j2, j3, j4⟩
      refine br_c (fun c => ?_) (fun c => nm_r (nI_1 b) ?_)
      · refine ym_labEq hL fa.1 fb.1 (fun y => br_f (by decide) (nm_r (nI_1 b) ?_)) (fun y => br_t rfl (nm_r (nI_1 b) ?_))
        · exact ih (b + 1) (by omega) (by omega) 1 _ _ _ _ _ _ _ _ _ _ _ _ _ _ _ _ _ _ _ _ _ _ _ _ _ _ _ _ (Or.inr ⟨rfl, b, by omega, e, c, y⟩)
        · exact ih (b + 1) (by omega) (by omega) x6 _ _ _ _ _ _ _ _ _ _ _ _ _ _ _ _ _ _ _ _ _ _ _ _ _ _ _ _ (keep (fun z => y z.2))
      · exact ih (b + 1) (by omega) (by omega) x6 _ _ _ _ _ _ _ _ _ _ _ _ _ _ _ _ _ _ _ _ _ _ _ _ _ _ _ _ (keep (fun z => c z.1))
theorem ym_labelsOk {L n : Nat} {post : Int32 → SY → Prop} (hL : L ≤ 128) (hc : ch_ok Yscr L) (hG : cq_G Yscr L n) (hn : n ≤ 16) (hcp : ∀ j, j < n → YcmdPos j = nI (cq_Q Yscr L j))
    (hg : lb_1 Yscr L n ∧ lb_2 Yscr L n → ∀ YnAddr1 Ya1K1 Ya1V1 Ya2K1 Ya2V1 Ycc1 YlabS1 YlabL1 YsRe1 YsRep1 YadK1 YadV1 Yneg1 YsG1 YicN1 Yna1 YanS1 YanE1 YmJ1 YrLen1 Yic1 Yie1 YaC1 YaAny1 YaSt1 Yrch1 Ynx1 Yrb1, post 1 (Yquiet, Yfuel, nI L, YinpLen, YhasTab, YnCmd, YoutLen, YpatLen, YholdLen, YlinesRead, YstepsUsed, Ytflag, YnAddr1, Ya1K1, Ya1V1, Ya2K1, Ya2V1, Ycc1, YlabS1, YlabL1, YsRe1, YsRep1, YadK1, YadV1, Yneg1, YsG1, YicN1, Yna1, YanS1, YanE1, YmJ1, YrLen1, Yscr, Yinp, YcmdPos, Yout, Ypat, Yhold, Yactive, Yact, Yic1, Yie1, YaC1, YaAny1, YaSt1, Yrch1, Ynx1, Yrb1))
    (hb : ¬ (lb_1 Yscr L n ∧ lb_2 Yscr L n) → ∀ YnAddr1 Ya1K1 Ya1V1 Ya2K1 Ya2V1 Ycc1 YlabS1 YlabL1 YsRe1 YsRep1 YadK1 YadV1 Yneg1 YsG1 YicN1 Yna1 YanS1 YanE1 YmJ1 YrLen1 Yic1 Yie1 YaC1 YaAny1 YaSt1 Yrch1 Ynx1 Yrb1, post 0 (Yquiet, Yfuel, nI L, YinpLen, YhasTab, YnCmd, YoutLen, YpatLen, YholdLen, YlinesRead, YstepsUsed, Ytflag, YnAddr1, Ya1K1, Ya1V1, Ya2K1, Ya2V1, Ycc1, YlabS1, YlabL1, YsRe1, YsRep1, YadK1, YadV1, Yneg1, YsG1, YicN1, Yna1, YanS1, YanE1, YmJ1, YrLen1, Yscr, Yinp, YcmdPos, Yout, Ypat, Yhold, Yactive, Yact, Yic1, Yie1, YaC1, YaAny1, YaSt1, Yrch1, Ynx1, Yrb1)) :
    ∀ f a, n - a < f → a ≤ n → (∀ j, j < a → lb_y Yscr L n j) → ∀ YnAddr1 Ya1K1 Ya1V1 Ya2K1 Ya2V1 Ycc1 YlabS1 YlabL1 YsRe1 YsRep1 YadK1 YadV1 Yneg1 YsG1 YicN1 Yna1 YanS1 YanE1 YmJ1 YrLen1 Yic1 Yie1 YaC1 YaAny1 YaSt1 Yrch1 Ynx1 Yrb1, wY_labelsOk_2 post (nI n) f (nI a) Yquiet Yfuel (nI L) YinpLen YhasTab YnCmd YoutLen YpatLen YholdLen YlinesRead YstepsUsed Ytflag YnAddr1 Ya1K1 Ya1V1 Ya2K1 Ya2V1 Ycc1 YlabS1 YlabL1 YsRe1 YsRep1 YadK1 YadV1 Yneg1 YsG1 YicN1 Yna1 YanS1 YanE1 YmJ1 YrLen1 Yscr Yinp YcmdPos Yout Ypat Yhold Yactive Yact Yic1 Yie1 YaC1 YaAny1 YaSt1 Yrch1 Ynx1 Yrb1 := by
  intro f
  induction f with
  | zero => intro a h; exact absurd h (Nat.not_lt_zero _)
  | succ f ih =>
  intro a hf han hj YnAddr1 Ya1K1 Ya1V1 Ya2K1 Ya2V1 Ycc1 YlabS1 YlabL1 YsRe1 YsRep1 YadK1 YadV1 Yneg1 YsG1 YicN1 Yna1 YanS1 YanE1 YmJ1 YrLen1 Yic1 Yie1 YaC1 YaAny1 YaSt1 Yrch1 Ynx1 Yrb1
  refine pk_le n a (fun w => hg ((lb_yy hG).mp (fun j h => hj j (by omega))) YnAddr1 Ya1K1 Ya1V1 Ya2K1 Ya2V1 Ycc1 YlabS1 YlabL1 YsRe1 YsRep1 YadK1 YadV1 Yneg1 YsG1 YicN1 Yna1 YanS1 YanE1 YmJ1 YrLen1 Yic1 Yie1 YaC1 YaAny1 YaSt1 Yrch1 Ynx1 Yrb1) (fun w => br_f (nI_ge (b := 16) (by omega) (by decide)) ⟨pk_in a 16 (by omega), ?_⟩)
  obtain ⟨g1, g2⟩ := hG a w
  rw [nI_clamp (by omega), hcp a w]
  refine ym_pc hL hc (Nat.le_of_lt g1) g2 ?_
  intro YnAddr2 Ya1K2 Ya1V2 Ya2K2 Ya2V2 Ycc2 YlabS2 YlabL2 YsRe2 YsRep2 YadK2 YadV2 Yneg2 YsG2 YicN2 Yna2 YanS2 YanE2 YmJ2 YrLen2 Yic2 Yie2 YaC2 YaAny2 YaSt2 Yrch2 Ynx2 Yrb2 hH
  obtain ⟨y1, y2, y3, y4, y5, y6, y7, y8, y9⟩ := hH
  subst y5 y6 y7
  have nxt : lb_y Yscr L n a → ∀ YnAddr3 Ya1K3 Ya1V3 Ya2K3 Ya2V3 Ycc3 YlabS3 YlabL3 YsRe3 YsRep3 YadK3 YadV3 Yneg3 YsG3 YicN3 Yna3 YanS3 YanE3 YmJ3 YrLen3 Yic3 Yie3 YaC3 YaAny3 YaSt3 Yrch3 Ynx3 Yrb3, wY_labelsOk_2 post (nI n) f (nI (a + 1)) Yquiet Yfuel (nI L) YinpLen YhasTab YnCmd YoutLen YpatLen YholdLen YlinesRead YstepsUsed Ytflag YnAddr3 Ya1K3 Ya1V3 Ya2K3 Ya2V3 Ycc3 YlabS3 YlabL3 YsRe3 YsRep3 YadK3 YadV3 Yneg3 YsG3 YicN3 Yna3 YanS3 YanE3 YmJ3 YrLen3 Yscr Yinp YcmdPos Yout Ypat Yhold Yactive Yact Yic3 Yie3 YaC3 YaAny3 YaSt3 Yrch3 Ynx3 Yrb3 := fun hy => ih (a + 1) (by omega) (by omega) (fun j h => by
    by_cases z : j = a
    · rw [z]; exact hy
    · exact hj j (by omega))
  have fa := lb_f hG w
  refine pk_eq (lb_l Yscr L a) 0 (fun e => nm_r (nI_1 a) ?_) (fun e => ⟨n + 1, ?_⟩)
  · exact nxt (fun y => absurd e y) _ _ _ _ _ _ _ _ _ _ _ _ _ _ _ _ _ _ _ _ _ _ _ _ _ _ _ _
  · exact ym_55 (post := post) (J := f) hL hc hG hn hcp w e nxt (fun y => hb (fun z => y ((lb_yy hG).mpr z a w))) (n + 1) 0 (by omega) (by omega) 0 _ _ _ _ _ _ _ _ _ _ _ _ _ _ _ _ _ _ _ _ _ _ _ _ _ _ _ _ (Or.inl ⟨rfl, fun j hj => absurd hj (by omega)⟩)
end YD_1
