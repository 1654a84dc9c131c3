/-! the relation, and what is owed -/
section FI_1
variable {Xquiet Xfuel XscriptSize XinputSize Xcursor XitemCount XtablePresent XcommandCount XoutputSize XpatternSize XholdSize XlineNumber XstepCount XnextLine Xpointer Xsubstituted XresultSize : Int32} {Xscript Xinput Xitems Xverb Xnegated Xeverywhere XlabelStart XlabelSize Xtarget XreplacementStart XreplacementEnd Xreplacement Xaddress XstartAnchor XendAnchor XatomCount XatomChar XatomStarred Xoutput Xpattern Xhold XactivationLine Xresult : Nat → Int32}
variable {Yquiet Yfuel YscrLen YinpLen YhasTab YnCmd YoutLen YpatLen YholdLen YlinesRead YstepsUsed Ytflag YnAddr Ya1K Ya1V Ya2K Ya2V Ycc YlabS YlabL YsRe YsRep YadK YadV Yneg YsG YicN Yna YanS YanE YmJ YrLen : Int32} {Yscr Yinp YcmdPos Yout Ypat Yhold Yactive Yact Yic Yie YaC YaAny YaSt Yrch Ynx Yrb : Nat → Int32}
/-- X's and Y's tables are those of the script -/
def fi_T (s : Nat → Int32) (L : Nat) (cc nc : Int32) (tgt vb ng ev lst lsz rst ren rep adr sa ea ac ach ast cp : Nat → Int32) : Prop :=
  ∃ n, cq_N s L n ∧ cc = nI n ∧ nc = nI n ∧ tx_T s L n vb ng ev lst lsz rst ren rep adr sa ea ac ach ast ∧ (∀ j, j < n → cp j = nI (cq_Q s L j)) ∧ (∀ a, a < n → (lb_c s L a = 98 ∨ lb_c s L a = 116) → ∃ t, tgt a = nI t ∧ lb_t s L n a t)
/-- the same script, input, results; the table as compiled -/
def i_Rel (k : Nat) (u : SX) (v : SY) : Prop := match u, v with
  | (Xquiet, Xfuel, XscriptSize, XinputSize, Xcursor, XitemCount, XtablePresent, XcommandCount, XoutputSize, XpatternSize, XholdSize, XlineNumber, XstepCount, XnextLine, Xpointer, Xsubstituted, XresultSize, Xscript, Xinput, Xitems, Xverb, Xnegated, Xeverywhere, XlabelStart, XlabelSize, Xtarget, XreplacementStart, XreplacementEnd, Xreplacement, Xaddress, XstartAnchor, XendAnchor, XatomCount, XatomChar, XatomStarred, Xoutput, Xpattern, Xhold, XactivationLine, Xresult), (Yquiet, Yfuel, YscrLen, YinpLen, YhasTab, YnCmd, YoutLen, YpatLen, YholdLen, YlinesRead, YstepsUsed, Ytflag, YnAddr, Ya1K, Ya1V, Ya2K, Ya2V, Ycc, YlabS, YlabL, YsRe, YsRep, YadK, YadV, Yneg, YsG, YicN, Yna, YanS, YanE, YmJ, YrLen, Yscr, Yinp, YcmdPos, Yout, Ypat, Yhold, Yactive, Yact, Yic, Yie, YaC, YaAny, YaSt, Yrch, Ynx, Yrb) => ∃ F L I o p h : Nat, F ≤ 2048 ∧ L ≤ 128 ∧ I ≤ 128 ∧ o ≤ 256 ∧ p ≤ 64 ∧ h ≤ 64 ∧ ch_ok Xscript L ∧ (XtablePresent = 0 ∨ XtablePresent = 1) ∧ (XtablePresent = 1 → fi_T Xscript L XcommandCount YnCmd Xtarget Xverb Xnegated Xeverywhere XlabelStart XlabelSize XreplacementStart XreplacementEnd Xreplacement Xaddress XstartAnchor XendAnchor XatomCount XatomChar XatomStarred YcmdPos) ∧ Xfuel = nI F ∧ XscriptSize = nI L ∧ XinputSize = nI I ∧ XoutputSize = nI o ∧ XpatternSize = nI p ∧ XholdSize = nI h ∧ Xquiet = Yquiet ∧ Yfuel = nI F ∧ YscrLen = nI L ∧ YinpLen = nI I ∧ XtablePresent = YhasTab ∧ YoutLen = nI o ∧ YpatLen = nI p ∧ YholdLen = nI h ∧ XlineNumber = YlinesRead ∧ XstepCount = YstepsUsed ∧ Xscript = Yscr ∧ Xinput = Yinp ∧ Xoutput = Yout ∧ Xpattern = Ypat ∧ Xhold = Yhold
theorem i_up {k : Nat} {u : SX} {v : SY} (h : i_Rel k u v) : i_Rel (k + 2) u v := h
theorem fi_0 {q : Int32} {F : Nat} (hF : F ≤ 2048) : i_Rel 2 (q, nI F, 0, 0, 0, 0, 0, 0, 0, 0, 0, 0, 0, 0, 0, 0, 0, (fun _ => 0), (fun _ => 0), (fun _ => 0), (fun _ => 0), (fun _ => 0), (fun _ => 0), (fun _ => 0), (fun _ => 0), (fun _ => 0), (fun _ => 0), (fun _ => 0), (fun _ => 0), (fun _ => 0), (fun _ => 0), (fun _ => 0), (fun _ => 0), (fun _ => 0), (fun _ => 0), (fun _ => 0), (fun _ => 0), (fun _ => 0), (fun _ => 0), (fun _ => 0)) (q, nI F, 0, 0, 0, 0, 0, 0, 0, 0, 0, 0, 0, 0, 0, 0, 0, 0, 0, 0, 0, 0, 0, 0, 0, 0, 0, 0, 0, 0, 0, 0, (fun _ => 0), (fun _ => 0), (fun _ => 0), (fun _ => 0), (fun _ => 0), (fun _ => 0), (fun _ => 0), (fun _ => 0), (fun _ => 0), (fun _ => 0), (fun _ => 0), (fun _ => 0), (fun _ => 0), (fun _ => 0), (fun _ => 0), (fun _ => 0)) :=
  ⟨F, 0, 0, 0, 0, 0, hF, by omega, by omega, by omega, by omega, by omega, fun i hi => absurd hi (by omega), Or.inl rfl, fun y => absurd y (by decide), rfl, rfl, rfl, rfl, rfl, rfl, rfl, rfl, rfl, rfl, rfl, rfl, rfl, rfl, rfl, rfl, rfl, rfl, rfl, rfl, rfl⟩
theorem i_vc0 (k0 : Int32) (k1 : Int32) : wpX_init (fun u => wpY_init (fun v => i_Rel 2 u v) k0 k1) k0 k1 := by
  have hY : ∀ q : Int32, (k0 ≤ 0 ∧ q = 0 ∨ ¬ k0 ≤ 0 ∧ q = 1) → ∀ P : SY → Prop, wY_init_156 P k1 q 0 0 0 0 0 0 0 0 0 0 0 0 0 0 0 0 0 0 0 0 0 0 0 0 0 0 0 0 0 0 0 0 (fun _ => 0) (fun _ => 0) (fun _ => 0) (fun _ => 0) (fun _ => 0) (fun _ => 0) (fun _ => 0) (fun _ => 0) (fun _ => 0) (fun _ => 0) (fun _ => 0) (fun _ => 0) (fun _ => 0) (fun _ => 0) (fun _ => 0) (fun _ => 0) → wpY_init P k0 k1 := by
    intro q hq P h
    refine br_c (fun a => br_c (fun b => ?_) (fun b => ?_)) (fun a => ?_)
    · have e : k0 = q := by
        rcases hq with ⟨y, z⟩ | ⟨y, z⟩
        · rw [z]; exact Int32.le_antisymm y a
        · rw [z]
          obtain ⟨j, hj, rfl⟩ := nI_of (x := k0) (Int32.not_lt.mpr a)
          have b1 := (nI_leI (b := 1) hj (by omega)).mp b
          rcases Nat.eq_zero_or_pos j with w | w
          · rw [w] at y; exact absurd (Int32.le_refl 0) y
          · rw [show j = 1 by omega]; rfl
      rw [e]; exact h
    · have e : q = 1 := by
        rcases hq with ⟨y, z⟩ | ⟨y, z⟩
        · exact absurd (Int32.le_trans y (by decide)) b
        · exact z
      rw [e] at h; exact h
    · have e : q = 0 := by
        rcases hq with ⟨y, z⟩ | ⟨y, z⟩
        · exact z
        · exact absurd (Int32.le_of_lt (Int32.not_le.mp a)) y
      rw [e] at h; exact h
  have hX : ∀ q : Int32, (q = 0 ∨ q = 1) → (k0 ≤ 0 ∧ q = 0 ∨ ¬ k0 ≤ 0 ∧ q = 1) → wX_init_205 (fun u => wpY_init (fun v => i_Rel 2 u v) k0 k1) k1 q 0 0 0 0 0 0 0 0 0 0 0 0 0 0 0 0 0 (fun _ => 0) (fun _ => 0) (fun _ => 0) (fun _ => 0) (fun _ => 0) (fun _ => 0) (fun _ => 0) (fun _ => 0) (fun _ => 0) (fun _ => 0) (fun _ => 0) (fun _ => 0) (fun _ => 0) (fun _ => 0) (fun _ => 0) (fun _ => 0) (fun _ => 0) (fun _ => 0) (fun _ => 0) (fun _ => 0) (fun _ => 0) (fun _ => 0) (fun _ => 0) := by
    intro q h01 hq
    refine ⟨ba_nb h01, ba_fb h01, ?_⟩
    by_cases a : (16 : Int32) ≤ k1
    · refine br_t a ?_
      by_cases b : k1 ≤ 2048
      · obtain ⟨j, hj, rfl⟩ := nI_of2 (x := k1) (M := 2048) (n := 2048) (by decide) (Int32.not_lt.mpr (Int32.le_trans (by decide) a)) b
        exact br_t b (hY q hq _ (br_t a (br_t b (fi_0 hj))))
      · exact br_f b (hY q hq _ (br_t a (br_f b (fi_0 (F := 2048) (by omega)))))
    · exact br_f a (hY q hq _ (br_f a (fi_0 (F := 16) (by omega))))
  exact br_c (fun a => hX 0 (Or.inl rfl) (Or.inl ⟨a, rfl⟩)) (fun a => hX 1 (Or.inr rfl) (Or.inr ⟨a, rfl⟩))
theorem fi_c {c : Int32} : (c = 10 ∨ (32 ≤ c ∧ c ≤ 126)) ∨ ¬ (c = 10 ∨ (32 ≤ c ∧ c ≤ 126)) := Classical.em _
theorem fi_x {c : Int32} {post : Int32 → Prop} (h1 : (c = 10 ∨ (32 ≤ c ∧ c ≤ 126)) → post 1) (h0 : ¬ (c = 10 ∨ (32 ≤ c ∧ c ≤ 126)) → post 0) : wpX_isTextChar post c :=
  br_c (fun a => h1 (Or.inl a)) (fun a => br_c (fun b => h0 (fun y => y.elim a (fun z => absurd b (Int32.not_lt.mpr z.1)))) (fun b => br_c (fun d => h0 (fun y => y.elim a (fun z => absurd d (Int32.not_lt.mpr z.2)))) (fun d => h1 (Or.inr ⟨Int32.not_lt.mp b, Int32.not_lt.mp d⟩))))
theorem fi_n {c : Int32} (h : c = 10 ∨ (32 ≤ c ∧ c ≤ 126)) : ∃ m : Nat, m < 128 ∧ c = nI m := by
  rcases h with y | y
  · exact ⟨10, by omega, y⟩
  · obtain ⟨j, hj, e⟩ := nI_of2 (x := c) (M := 126) (n := 126) (by decide) (Int32.not_lt.mpr (Int32.le_trans (by decide) y.1)) y.2
    exact ⟨j, by omega, e⟩
theorem fi_yaddScriptChar {c : Int32} {P : Int32 → SY → Prop} (h1 : (c = 10 ∨ (32 ≤ c ∧ c ≤ 126)) → wY_addScriptChar_20 P c Yquiet Yfuel YscrLen YinpLen YhasTab YnCmd YoutLen YpatLen YholdLen YlinesRead YstepsUsed Ytflag YnAddr Ya1K Ya1V Ya2K Ya2V Ycc YlabS YlabL YsRe YsRep YadK YadV Yneg YsG YicN Yna YanS YanE YmJ YrLen Yscr Yinp YcmdPos Yout Ypat Yhold Yactive Yact Yic Yie YaC YaAny YaSt Yrch Ynx Yrb) (h0 : ¬ (c = 10 ∨ (32 ≤ c ∧ c ≤ 126)) → P (-1) (Yquiet, Yfuel, YscrLen, YinpLen, YhasTab, YnCmd, YoutLen, YpatLen, YholdLen, YlinesRead, YstepsUsed, Ytflag, YnAddr, Ya1K, Ya1V, Ya2K, Ya2V, Ycc, YlabS, YlabL, YsRe, YsRep, YadK, YadV, Yneg, YsG, YicN, Yna, YanS, YanE, YmJ, YrLen, Yscr, Yinp, YcmdPos, Yout, Ypat, Yhold, Yactive, Yact, Yic, Yie, YaC, YaAny, YaSt, Yrch, Ynx, Yrb)) : wpY_addScriptChar P (Yquiet, Yfuel, YscrLen, YinpLen, YhasTab, YnCmd, YoutLen, YpatLen, YholdLen, YlinesRead, YstepsUsed, Ytflag, YnAddr, Ya1K, Ya1V, Ya2K, Ya2V, Ycc, YlabS, YlabL, YsRe, YsRep, YadK, YadV, Yneg, YsG, YicN, Yna, YanS, YanE, YmJ, YrLen, Yscr, Yinp, YcmdPos, Yout, Ypat, Yhold, Yactive, Yact, Yic, Yie, YaC, YaAny, YaSt, Yrch, Ynx, Yrb) c :=
  br_c (fun a => h1 (Or.inl a)) (fun a => br_c (fun b => h0 (fun y => y.elim a (fun z => absurd b (Int32.not_lt.mpr z.1)))) (fun b => br_c (fun d => h1 (Or.inr ⟨Int32.not_lt.mp b, d⟩)) (fun d => h0 (fun y => y.elim a (fun z => d z.2)))))
theorem fi_yaddInputChar {c : Int32} {P : Int32 → SY → Prop} (h1 : (c = 10 ∨ (32 ≤ c ∧ c ≤ 126)) → wY_addInputChar_20 P c Yquiet Yfuel YscrLen YinpLen YhasTab YnCmd YoutLen YpatLen YholdLen YlinesRead YstepsUsed Ytflag YnAddr Ya1K Ya1V Ya2K Ya2V Ycc YlabS YlabL YsRe YsRep YadK YadV Yneg YsG YicN Yna YanS YanE YmJ YrLen Yscr Yinp YcmdPos Yout Ypat Yhold Yactive Yact Yic Yie YaC YaAny YaSt Yrch Ynx Yrb) (h0 : ¬ (c = 10 ∨ (32 ≤ c ∧ c ≤ 126)) → P (-1) (Yquiet, Yfuel, YscrLen, YinpLen, YhasTab, YnCmd, YoutLen, YpatLen, YholdLen, YlinesRead, YstepsUsed, Ytflag, YnAddr, Ya1K, Ya1V, Ya2K, Ya2V, Ycc, YlabS, YlabL, YsRe, YsRep, YadK, YadV, Yneg, YsG, YicN, Yna, YanS, YanE, YmJ, YrLen, Yscr, Yinp, YcmdPos, Yout, Ypat, Yhold, Yactive, Yact, Yic, Yie, YaC, YaAny, YaSt, Yrch, Ynx, Yrb)) : wpY_addInputChar P (Yquiet, Yfuel, YscrLen, YinpLen, YhasTab, YnCmd, YoutLen, YpatLen, YholdLen, YlinesRead, YstepsUsed, Ytflag, YnAddr, Ya1K, Ya1V, Ya2K, Ya2V, Ycc, YlabS, YlabL, YsRe, YsRep, YadK, YadV, Yneg, YsG, YicN, Yna, YanS, YanE, YmJ, YrLen, Yscr, Yinp, YcmdPos, Yout, Ypat, Yhold, Yactive, Yact, Yic, Yie, YaC, YaAny, YaSt, Yrch, Ynx, Yrb) c :=
  br_c (fun a => h1 (Or.inl a)) (fun a => br_c (fun b => h0 (fun y => y.elim a (fun z => absurd b (Int32.not_lt.mpr z.1)))) (fun b => br_c (fun d => h1 (Or.inr ⟨Int32.not_lt.mp b, d⟩)) (fun d => h0 (fun y => y.elim a (fun z => d z.2)))))
theorem i_vc_addScriptChar {k : Nat} {u : SX} {v : SY} (I : i_Rel k u v) (hk : k + 2 ≤ 1026) (v1 : Int32) : wpX_addScriptChar (fun r u' => wpY_addScriptChar (fun r' v' => r' = r ∧ i_Rel (k + 2) u' v') v v1) u v1 := by
  have J := I
  clear I
  obtain ⟨Xquiet, Xfuel, XscriptSize, XinputSize, Xcursor, XitemCount, XtablePresent, XcommandCount, XoutputSize, XpatternSize, XholdSize, XlineNumber, XstepCount, XnextLine, Xpointer, Xsubstituted, XresultSize, Xscript, Xinput, Xitems, Xverb, Xnegated, Xeverywhere, XlabelStart, XlabelSize, Xtarget, XreplacementStart, XreplacementEnd, Xreplacement, Xaddress, XstartAnchor, XendAnchor, XatomCount, XatomChar, XatomStarred, Xoutput, Xpattern, Xhold, XactivationLine, Xresult⟩ := u
  obtain ⟨Yquiet, Yfuel, YscrLen, YinpLen, YhasTab, YnCmd, YoutLen, YpatLen, YholdLen, YlinesRead, YstepsUsed, Ytflag, YnAddr, Ya1K, Ya1V, Ya2K, Ya2V, Ycc, YlabS, YlabL, YsRe, YsRep, YadK, YadV, Yneg, YsG, YicN, Yna, YanS, YanE, YmJ, YrLen, Yscr, Yinp, YcmdPos, Yout, Ypat, Yhold, Yactive, Yact, Yic, Yie, YaC, YaAny, YaSt, Yrch, Ynx, Yrb⟩ := v
  have I0 := J
  obtain ⟨F, L, I, o, p, h, hF, hL, hI, ho, hp, hh, hch, ht, hT, rfl, rfl, rfl, rfl, rfl, rfl, rfl, rfl, rfl, rfl, rfl, rfl, rfl, rfl, rfl, rfl, rfl, rfl, rfl, rfl, rfl⟩ := I0
  unfold wpX_addScriptChar
  refine fi_x (fun y => br_f (by decide) (pk_lt L 128 (fun w => ⟨pk_in L 128 w, nm_e (nm_r (nI_1 L) ?_)⟩) (fun w => ?_))) (fun y => br_t rfl ?_)
  · rw [nI_clamp (by omega)]
    refine fi_yaddScriptChar (fun _ => br_t (nI_lt (b := 128) w (by decide)) ⟨pk_in L 128 w, nm_e (nm_r (nI_1 L) ⟨rfl, ?_⟩)⟩) (fun z => absurd y z)
    rw [nI_clamp (by omega)]
    refine ⟨F, L + 1, I, o, p, h, hF, by omega, hI, ho, hp, hh, ?_, Or.inl rfl, fun z => absurd z (by decide), rfl, rfl, rfl, rfl, rfl, rfl, rfl, rfl, rfl, rfl, rfl, rfl, rfl, rfl, rfl, rfl, rfl, rfl, rfl, rfl, rfl⟩
    intro i hi
    by_cases e : i = L
    · rw [e, pk_us]; exact fi_n y
    · rw [pk_un e]; exact hch i (by omega)
  · exact fi_yaddScriptChar (fun _ => br_f (nI_nlt (b := 128) w (by omega)) ⟨rfl, J⟩) (fun z => absurd y z)
  · exact fi_yaddScriptChar (fun z => absurd z y) (fun _ => ⟨rfl, J⟩)
theorem i_vc_clearScript {k : Nat} {u : SX} {v : SY} (I : i_Rel k u v) (hk : k + 2 ≤ 1026) : wpX_clearScript (fun u' => wpY_clearScript (fun v' => i_Rel (k + 2) u' v') v) u := by
  have J := I
  clear I
  obtain ⟨Xquiet, Xfuel, XscriptSize, XinputSize, Xcursor, XitemCount, XtablePresent, XcommandCount, XoutputSize, XpatternSize, XholdSize, XlineNumber, XstepCount, XnextLine, Xpointer, Xsubstituted, XresultSize, Xscript, Xinput, Xitems, Xverb, Xnegated, Xeverywhere, XlabelStart, XlabelSize, Xtarget, XreplacementStart, XreplacementEnd, Xreplacement, Xaddress, XstartAnchor, XendAnchor, XatomCount, XatomChar, XatomStarred, Xoutput, Xpattern, Xhold, XactivationLine, Xresult⟩ := u
  obtain ⟨Yquiet, Yfuel, YscrLen, YinpLen, YhasTab, YnCmd, YoutLen, YpatLen, YholdLen, YlinesRead, YstepsUsed, Ytflag, YnAddr, Ya1K, Ya1V, Ya2K, Ya2V, Ycc, YlabS, YlabL, YsRe, YsRep, YadK, YadV, Yneg, YsG, YicN, Yna, YanS, YanE, YmJ, YrLen, Yscr, Yinp, YcmdPos, Yout, Ypat, Yhold, Yactive, Yact, Yic, Yie, YaC, YaAny, YaSt, Yrch, Ynx, Yrb⟩ := v
  have I0 := J
  obtain ⟨F, L, I, o, p, h, hF, hL, hI, ho, hp, hh, hch, ht, hT, rfl, rfl, rfl, rfl, rfl, rfl, rfl, rfl, rfl, rfl, rfl, rfl, rfl, rfl, rfl, rfl, rfl, rfl, rfl, rfl, rfl⟩ := I0
  exact ⟨F, 0, I, o, p, h, hF, by omega, hI, ho, hp, hh, fun i hi => absurd hi (by omega), Or.inl rfl, fun z => absurd z (by decide), rfl, rfl, rfl, rfl, rfl, rfl, rfl, rfl, rfl, rfl, rfl, rfl, rfl, rfl, rfl, rfl, rfl, rfl, rfl, rfl, rfl⟩
theorem i_vc_addInputChar {k : Nat} {u : SX} {v : SY} (I : i_Rel k u v) (hk : k + 2 ≤ 1026) (v1 : Int32) : wpX_addInputChar (fun r u' => wpY_addInputChar (fun r' v' => r' = r ∧ i_Rel (k + 2) u' v') v v1) u v1 := by
  have J := I
  clear I
  obtain ⟨Xquiet, Xfuel, XscriptSize, XinputSize, Xcursor, XitemCount, XtablePresent, XcommandCount, XoutputSize, XpatternSize, XholdSize, XlineNumber, XstepCount, XnextLine, Xpointer, Xsubstituted, XresultSize, Xscript, Xinput, Xitems, Xverb, Xnegated, Xeverywhere, XlabelStart, XlabelSize, Xtarget, XreplacementStart, XreplacementEnd, Xreplacement, Xaddress, XstartAnchor, XendAnchor, XatomCount, XatomChar, XatomStarred, Xoutput, Xpattern, Xhold, XactivationLine, Xresult⟩ := u
  obtain ⟨Yquiet, Yfuel, YscrLen, YinpLen, YhasTab, YnCmd, YoutLen, YpatLen, YholdLen, YlinesRead, YstepsUsed, Ytflag, YnAddr, Ya1K, Ya1V, Ya2K, Ya2V, Ycc, YlabS, YlabL, YsRe, YsRep, YadK, YadV, Yneg, YsG, YicN, Yna, YanS, YanE, YmJ, YrLen, Yscr, Yinp, YcmdPos, Yout, Ypat, Yhold, Yactive, Yact, Yic, Yie, YaC, YaAny, YaSt, Yrch, Ynx, Yrb⟩ := v
  have I0 := J
  obtain ⟨F, L, I, o, p, h, hF, hL, hI, ho, hp, hh, hch, ht, hT, rfl, rfl, rfl, rfl, rfl, rfl, rfl, rfl, rfl, rfl, rfl, rfl, rfl, rfl, rfl, rfl, rfl, rfl, rfl, rfl, rfl⟩ := I0
  unfold wpX_addInputChar
  refine fi_x (fun y => br_f (by decide) (pk_lt I 128 (fun w => ⟨pk_in I 128 w, nm_e (nm_r (nI_1 I) ?_)⟩) (fun w => ?_))) (fun y => br_t rfl ?_)
  · rw [nI_clamp (by omega)]
    refine fi_yaddInputChar (fun _ => br_t (nI_lt (b := 128) w (by decide)) ⟨pk_in I 128 w, nm_e (nm_r (nI_1 I) ⟨rfl, ?_⟩)⟩) (fun z => absurd y z)
    rw [nI_clamp (by omega)]
    exact ⟨F, L, I + 1, o, p, h, hF, hL, by omega, ho, hp, hh, hch, ht, hT, rfl, rfl, rfl, rfl, rfl, rfl, rfl, rfl, rfl, rfl, rfl, rfl, rfl, rfl, rfl, rfl, rfl, rfl, rfl, rfl, rfl⟩
  · exact fi_yaddInputChar (fun _ => br_f (nI_nlt (b := 128) w (by omega)) ⟨rfl, J⟩) (fun z => absurd y z)
  · exact fi_yaddInputChar (fun z => absurd z y) (fun _ => ⟨rfl, J⟩)
theorem i_vc_clearInput {k : Nat} {u : SX} {v : SY} (I : i_Rel k u v) (hk : k + 2 ≤ 1026) : wpX_clearInput (fun u' => wpY_clearInput (fun v' => i_Rel (k + 2) u' v') v) u := by
  have J := I
  clear I
  obtain ⟨Xquiet, Xfuel, XscriptSize, XinputSize, Xcursor, XitemCount, XtablePresent, XcommandCount, XoutputSize, XpatternSize, XholdSize, XlineNumber, XstepCount, XnextLine, Xpointer, Xsubstituted, XresultSize, Xscript, Xinput, Xitems, Xverb, Xnegated, Xeverywhere, XlabelStart, XlabelSize, Xtarget, XreplacementStart, XreplacementEnd, Xreplacement, Xaddress, XstartAnchor, XendAnchor, XatomCount, XatomChar, XatomStarred, Xoutput, Xpattern, Xhold, XactivationLine, Xresult⟩ := u
  obtain ⟨Yquiet, Yfuel, YscrLen, YinpLen, YhasTab, YnCmd, YoutLen, YpatLen, YholdLen, YlinesRead, YstepsUsed, Ytflag, YnAddr, Ya1K, Ya1V, Ya2K, Ya2V, Ycc, YlabS, YlabL, YsRe, YsRep, YadK, YadV, Yneg, YsG, YicN, Yna, YanS, YanE, YmJ, YrLen, Yscr, Yinp, YcmdPos, Yout, Ypat, Yhold, Yactive, Yact, Yic, Yie, YaC, YaAny, YaSt, Yrch, Ynx, Yrb⟩ := v
  have I0 := J
  obtain ⟨F, L, I, o, p, h, hF, hL, hI, ho, hp, hh, hch, ht, hT, rfl, rfl, rfl, rfl, rfl, rfl, rfl, rfl, rfl, rfl, rfl, rfl, rfl, rfl, rfl, rfl, rfl, rfl, rfl, rfl, rfl⟩ := I0
  exact ⟨F, L, 0, o, p, h, hF, hL, by omega, ho, hp, hh, hch, ht, hT, rfl, rfl, rfl, rfl, rfl, rfl, rfl, rfl, rfl, rfl, rfl, rfl, rfl, rfl, rfl, rfl, rfl, rfl, rfl, rfl, rfl⟩
theorem cq_Nu {s : Nat → Int32} {L n n' : Nat} (h : cq_N s L n) (h' : cq_N s L n') : n' = n := by
  rcases Nat.lt_trichotomy n' n with z | z | z
  · have := (h.1 n' z).1; have := h'.2.1; omega
  · exact z
  · have := (h'.1 n z).1; have := h.2.1; omega
theorem i_vc_compile {k : Nat} {u : SX} {v : SY} (I : i_Rel k u v) (hk : k + 2 ≤ 1026) : wpX_compile (fun r u' => wpY_compile (fun r' v' => r' = r ∧ i_Rel (k + 2) u' v') v) u := by
  have J := I
  clear I
  obtain ⟨Xquiet, Xfuel, XscriptSize, XinputSize, Xcursor, XitemCount, XtablePresent, XcommandCount, XoutputSize, XpatternSize, XholdSize, XlineNumber, XstepCount, XnextLine, Xpointer, Xsubstituted, XresultSize, Xscript, Xinput, Xitems, Xverb, Xnegated, Xeverywhere, XlabelStart, XlabelSize, Xtarget, XreplacementStart, XreplacementEnd, Xreplacement, Xaddress, XstartAnchor, XendAnchor, XatomCount, XatomChar, XatomStarred, Xoutput, Xpattern, Xhold, XactivationLine, Xresult⟩ := u
  obtain ⟨Yquiet, Yfuel, YscrLen, YinpLen, YhasTab, YnCmd, YoutLen, YpatLen, YholdLen, YlinesRead, YstepsUsed, Ytflag, YnAddr, Ya1K, Ya1V, Ya2K, Ya2V, Ycc, YlabS, YlabL, YsRe, YsRep, YadK, YadV, Yneg, YsG, YicN, Yna, YanS, YanE, YmJ, YrLen, Yscr, Yinp, YcmdPos, Yout, Ypat, Yhold, Yactive, Yact, Yic, Yie, YaC, YaAny, YaSt, Yrch, Ynx, Yrb⟩ := v
  have I0 := J
  obtain ⟨F, L, I, o, p, h, hF, hL, hI, ho, hp, hh, hch, ht, hT, rfl, rfl, rfl, rfl, rfl, rfl, rfl, rfl, rfl, rfl, rfl, rfl, rfl, rfl, rfl, rfl, rfl, rfl, rfl, rfl, rfl⟩ := I0
  refine xm_compile hL hch (fun n u' hN l1 l2 hu => ?_) (fun hbad u' hK h0 => ?_)
  · obtain ⟨Xquiet1, Xfuel1, XscriptSize1, XinputSize1, Xcursor1, XitemCount1, XtablePresent1, XcommandCount1, XoutputSize1, XpatternSize1, XholdSize1, XlineNumber1, XstepCount1, XnextLine1, Xpointer1, Xsubstituted1, XresultSize1, Xscript1, Xinput1, Xitems1, Xverb1, Xnegated1, Xeverywhere1, XlabelStart1, XlabelSize1, Xtarget1, XreplacementStart1, XreplacementEnd1, Xreplacement1, Xaddress1, XstartAnchor1, XendAnchor1, XatomCount1, XatomChar1, XatomStarred1, Xoutput1, Xpattern1, Xhold1, XactivationLine1, Xresult1⟩ := u'
    obtain ⟨hK, u1, u2, u3, u4⟩ := hu
    unfold xc_K at hK
    simp only [Prod.mk.injEq] at hK
    obtain ⟨rfl, rfl, rfl, rfl, rfl, rfl, rfl, rfl, rfl, rfl, rfl, rfl, rfl, rfl⟩ := hK
    subst u1 u2
    refine ym_compile hL hch (fun n' cp hN' hl' hcp => ?_) (fun hbad => absurd ⟨l1, l2⟩ (hbad n hN))
    intro YnAddr2 Ya1K2 Ya1V2 Ya2K2 Ya2V2 Ycc2 YlabS2 YlabL2 YsRe2 YsRep2 YadK2 YadV2 Yneg2 YsG2 YicN2 Yna2 YanS2 YanE2 YmJ2 YrLen2 Yic2 Yie2 YaC2 YaAny2 YaSt2 Yrch2 Ynx2 Yrb2
    have e := cq_Nu hN hN'
    subst e
    exact ⟨rfl, ⟨F, L, I, o, p, h, hF, hL, hI, ho, hp, hh, hch, Or.inr rfl, fun _ => ⟨n', hN, rfl, rfl, u3, hcp, u4⟩, rfl, rfl, rfl, rfl, rfl, rfl, rfl, rfl, rfl, rfl, rfl, rfl, rfl, rfl, rfl, rfl, rfl, rfl, rfl, rfl, rfl⟩⟩
  · obtain ⟨Xquiet1, Xfuel1, XscriptSize1, XinputSize1, Xcursor1, XitemCount1, XtablePresent1, XcommandCount1, XoutputSize1, XpatternSize1, XholdSize1, XlineNumber1, XstepCount1, XnextLine1, Xpointer1, Xsubstituted1, XresultSize1, Xscript1, Xinput1, Xitems1, Xverb1, Xnegated1, Xeverywhere1, XlabelStart1, XlabelSize1, Xtarget1, XreplacementStart1, XreplacementEnd1, Xreplacement1, Xaddress1, XstartAnchor1, XendAnchor1, XatomCount1, XatomChar1, XatomStarred1, Xoutput1, Xpattern1, Xhold1, XactivationLine1, Xresult1⟩ := u'
    unfold xc_K at hK
    simp only [Prod.mk.injEq] at hK
    obtain ⟨rfl, rfl, rfl, rfl, rfl, rfl, rfl, rfl, rfl, rfl, rfl, rfl, rfl, rfl⟩ := hK
    have h0 : XtablePresent1 = 0 := h0
    subst h0
    refine ym_compile hL hch (fun n' cp hN' hl' hcp => absurd hl' (hbad n' hN')) (fun _ => ?_)
    intro cp YnAddr2 Ya1K2 Ya1V2 Ya2K2 Ya2V2 Ycc2 YlabS2 YlabL2 YsRe2 YsRep2 YadK2 YadV2 Yneg2 YsG2 YicN2 Yna2 YanS2 YanE2 YmJ2 YrLen2 Yic2 Yie2 YaC2 YaAny2 YaSt2 Yrch2 Ynx2 Yrb2
    exact ⟨rfl, ⟨F, L, I, o, p, h, hF, hL, hI, ho, hp, hh, hch, Or.inl rfl, fun z => absurd z (by decide), rfl, rfl, rfl, rfl, rfl, rfl, rfl, rfl, rfl, rfl, rfl, rfl, rfl, rfl, rfl, rfl, rfl, rfl, rfl, rfl, rfl⟩⟩
theorem i_vc_hasTable {k : Nat} {u : SX} {v : SY} (I : i_Rel k u v) (hk : k + 2 ≤ 1026) : wpX_hasTable (fun r => wpY_hasTable (fun r' => r' = r ∧ i_Rel (k + 2) u v) v) u := by
  have J := I
  clear I
  obtain ⟨Xquiet, Xfuel, XscriptSize, XinputSize, Xcursor, XitemCount, XtablePresent, XcommandCount, XoutputSize, XpatternSize, XholdSize, XlineNumber, XstepCount, XnextLine, Xpointer, Xsubstituted, XresultSize, Xscript, Xinput, Xitems, Xverb, Xnegated, Xeverywhere, XlabelStart, XlabelSize, Xtarget, XreplacementStart, XreplacementEnd, Xreplacement, Xaddress, XstartAnchor, XendAnchor, XatomCount, XatomChar, XatomStarred, Xoutput, Xpattern, Xhold, XactivationLine, Xresult⟩ := u
  obtain ⟨Yquiet, Yfuel, YscrLen, YinpLen, YhasTab, YnCmd, YoutLen, YpatLen, YholdLen, YlinesRead, YstepsUsed, Ytflag, YnAddr, Ya1K, Ya1V, Ya2K, Ya2V, Ycc, YlabS, YlabL, YsRe, YsRep, YadK, YadV, Yneg, YsG, YicN, Yna, YanS, YanE, YmJ, YrLen, Yscr, Yinp, YcmdPos, Yout, Ypat, Yhold, Yactive, Yact, Yic, Yie, YaC, YaAny, YaSt, Yrch, Ynx, Yrb⟩ := v
  have I0 := J
  obtain ⟨F, L, I, o, p, h, hF, hL, hI, ho, hp, hh, hch, ht, hT, rfl, rfl, rfl, rfl, rfl, rfl, rfl, rfl, rfl, rfl, rfl, rfl, rfl, rfl, rfl, rfl, rfl, rfl, rfl, rfl, rfl⟩ := I0
  exact ⟨ba_nb ht, ba_nb ht, rfl, J⟩
theorem rn_out_ok {s inp : Nat → Int32} {L I F n : Nat} {qt : Int32} {tg : Nat → Nat} {D : Nat → cm_T} (ht : ∀ k, k < n → tg k ≤ n) : ∀ g z, rn_ok inp I F z → rn_ok inp I F (rn_out s inp L I F n qt tg D g z).2 := by
  intro g
  induction g with
  | zero => intro z h; exact h
  | succ g ih =>
    intro z h
    have hc := rn_cyc_ok (s := s) (L := L) (qt := qt) (tg := tg) (D := D) ht h
    rw [rn_out]
    split
    · exact ih _ hc.1
    · exact hc.1
def fi_g (s : Nat → Int32) (L : Nat) (tgt : Nat → Int32) (a : Nat) : Nat := if lb_c s L a = 98 ∨ lb_c s L a = 116 then (tgt a).toNatClampNeg else 0
theorem i_vc_run {k : Nat} {u : SX} {v : SY} (I : i_Rel k u v) (hk : k + 2 ≤ 1026) : wpX_run (fun r u' => wpY_run (fun r' v' => r' = r ∧ i_Rel (k + 2) u' v') v) u := by
  have J := I
  clear I
  obtain ⟨Xquiet, Xfuel, XscriptSize, XinputSize, Xcursor, XitemCount, XtablePresent, XcommandCount, XoutputSize, XpatternSize, XholdSize, XlineNumber, XstepCount, XnextLine, Xpointer, Xsubstituted, XresultSize, Xscript, Xinput, Xitems, Xverb, Xnegated, Xeverywhere, XlabelStart, XlabelSize, Xtarget, XreplacementStart, XreplacementEnd, Xreplacement, Xaddress, XstartAnchor, XendAnchor, XatomCount, XatomChar, XatomStarred, Xoutput, Xpattern, Xhold, XactivationLine, Xresult⟩ := u
  obtain ⟨Yquiet, Yfuel, YscrLen, YinpLen, YhasTab, YnCmd, YoutLen, YpatLen, YholdLen, YlinesRead, YstepsUsed, Ytflag, YnAddr, Ya1K, Ya1V, Ya2K, Ya2V, Ycc, YlabS, YlabL, YsRe, YsRep, YadK, YadV, Yneg, YsG, YicN, Yna, YanS, YanE, YmJ, YrLen, Yscr, Yinp, YcmdPos, Yout, Ypat, Yhold, Yactive, Yact, Yic, Yie, YaC, YaAny, YaSt, Yrch, Ynx, Yrb⟩ := v
  have I0 := J
  obtain ⟨F, L, I, o, p, h, hF, hL, hI, ho, hp, hh, hch, ht, hT, rfl, rfl, rfl, rfl, rfl, rfl, rfl, rfl, rfl, rfl, rfl, rfl, rfl, rfl, rfl, rfl, rfl, rfl, rfl, rfl, rfl⟩ := I0
  rcases ht with t0 | t1
  · subst t0
    exact br_t rfl (br_t rfl ⟨rfl, J⟩)
  · subst t1
    obtain ⟨n, hN, rfl, rfl, hTT, hcp, htg⟩ := hT rfl
    obtain ⟨hG, hQ, hn⟩ := hN
    have hg : ∀ a, a < n → (lb_c Xscript L a = 98 ∨ lb_c Xscript L a = 116) → Xtarget a = nI (fi_g Xscript L Xtarget a) ∧ lb_t Xscript L n a (fi_g Xscript L Xtarget a) := by
      intro a ha c
      obtain ⟨t, e, l⟩ := htg a ha c
      have tn : t ≤ n := by
        rcases l with ⟨_, y⟩ | ⟨_, y, _⟩ <;> omega
      have eg : fi_g Xscript L Xtarget a = t := by
        unfold fi_g
        rw [if_pos c, e, nI_clamp (by omega)]
      rw [eg]
      exact ⟨e, l⟩
    have hgn : ∀ a, a < n → fi_g Xscript L Xtarget a ≤ n := by
      intro a ha
      by_cases c : lb_c Xscript L a = 98 ∨ lb_c Xscript L a = 116
      · rcases (hg a ha c).2 with ⟨_, y⟩ | ⟨_, y, _⟩ <;> omega
      · unfold fi_g; rw [if_neg c]; omega
    refine xm_run (tg := fi_g Xscript L Xtarget) (D := cq_D Xscript L) hL hI hF hn (fun a ha => ?_) hgn (fun r Mout1 Mo1 Mpat1 Mp1 Mhold1 Mh1 Mm1 Mq1 Mst1 Mt1 Mac1 pt t rl res hr => ?_)
    · obtain ⟨g1, g2⟩ := hG a ha
      have f := cm_x_f (Nat.le_of_lt g1) g2
      exact ⟨cm_x_ok (Nat.le_of_lt g1) g2, by omega, hTT a ha, fun c => (hg a ha c).1⟩
    · refine ym_run (tg := fi_g Xscript L Xtarget) (Mac := rn_a0 XactivationLine 16) hL hch hI hF hG hn hcp (fun a ha c => (hg a ha c).2) hgn (fun j hj => by unfold rn_a0; rw [if_pos hj]) ?_
      intro r' Mout2 Mo2 Mpat2 Mp2 Mhold2 Mh2 Mm2 Mq2 Mst2 Mt2 Mac2 active act YnAddr2 Ya1K2 Ya1V2 Ya2K2 Ya2V2 Ycc2 YlabS2 YlabL2 YsRe2 YsRep2 YadK2 YadV2 Yneg2 YsG2 YicN2 Yna2 YanS2 YanE2 YmJ2 YrLen2 Yic2 Yie2 YaC2 YaAny2 YaSt2 Yrch2 Ynx2 Yrb2 hr'
      have ok := rn_out_ok (s := Xscript) (L := L) (F := F) (qt := Xquiet) (D := cq_D Xscript L) hgn (I + 2) (Xoutput, 0, Xpattern, 0, Xhold, 0, 0, 0, 0, 0, rn_a0 XactivationLine 16) (inp := Xinput) (I := I) ⟨by omega, by omega, by omega, by omega, ln_0 _ _, Or.inl rfl⟩
      rw [hr] at hr' ok
      simp only [Prod.mk.injEq] at hr'
      obtain ⟨rfl, rfl, rfl, rfl, rfl, rfl, rfl, rfl, rfl, rfl, rfl, rfl⟩ := hr'
      obtain ⟨k1, k2, k3, k4, k5, k6⟩ := ok
      exact ⟨rfl, ⟨F, L, I, Mo1, Mp1, Mh1, hF, hL, hI, k1, k2, k3, hch, Or.inr rfl, fun _ => ⟨n, ⟨hG, hQ, hn⟩, rfl, rfl, hTT, hcp, htg⟩, rfl, rfl, rfl, rfl, rfl, rfl, rfl, rfl, rfl, rfl, rfl, rfl, rfl, rfl, rfl, rfl, rfl, rfl, rfl, rfl, rfl⟩⟩
theorem i_vc_outputLength {k : Nat} {u : SX} {v : SY} (I : i_Rel k u v) (hk : k + 2 ≤ 1026) : wpX_outputLength (fun r => wpY_outputLength (fun r' => r' = r ∧ i_Rel (k + 2) u v) v) u := by
  have J := I
  clear I
  obtain ⟨Xquiet, Xfuel, XscriptSize, XinputSize, Xcursor, XitemCount, XtablePresent, XcommandCount, XoutputSize, XpatternSize, XholdSize, XlineNumber, XstepCount, XnextLine, Xpointer, Xsubstituted, XresultSize, Xscript, Xinput, Xitems, Xverb, Xnegated, Xeverywhere, XlabelStart, XlabelSize, Xtarget, XreplacementStart, XreplacementEnd, Xreplacement, Xaddress, XstartAnchor, XendAnchor, XatomCount, XatomChar, XatomStarred, Xoutput, Xpattern, Xhold, XactivationLine, Xresult⟩ := u
  obtain ⟨Yquiet, Yfuel, YscrLen, YinpLen, YhasTab, YnCmd, YoutLen, YpatLen, YholdLen, YlinesRead, YstepsUsed, Ytflag, YnAddr, Ya1K, Ya1V, Ya2K, Ya2V, Ycc, YlabS, YlabL, YsRe, YsRep, YadK, YadV, Yneg, YsG, YicN, Yna, YanS, YanE, YmJ, YrLen, Yscr, Yinp, YcmdPos, Yout, Ypat, Yhold, Yactive, Yact, Yic, Yie, YaC, YaAny, YaSt, Yrch, Ynx, Yrb⟩ := v
  have I0 := J
  obtain ⟨F, L, I, o, p, h, hF, hL, hI, ho, hp, hh, hch, ht, hT, rfl, rfl, rfl, rfl, rfl, rfl, rfl, rfl, rfl, rfl, rfl, rfl, rfl, rfl, rfl, rfl, rfl, rfl, rfl, rfl, rfl⟩ := I0
  exact ⟨rfl, J⟩
theorem i_vc_outputChar {k : Nat} {u : SX} {v : SY} (I : i_Rel k u v) (hk : k + 2 ≤ 1026) (v1 : Int32) : wpX_outputChar (fun r => wpY_outputChar (fun r' => r' = r ∧ i_Rel (k + 2) u v) v v1) u v1 := by
  have J := I
  clear I
  obtain ⟨Xquiet, Xfuel, XscriptSize, XinputSize, Xcursor, XitemCount, XtablePresent, XcommandCount, XoutputSize, XpatternSize, XholdSize, XlineNumber, XstepCount, XnextLine, Xpointer, Xsubstituted, XresultSize, Xscript, Xinput, Xitems, Xverb, Xnegated, Xeverywhere, XlabelStart, XlabelSize, Xtarget, XreplacementStart, XreplacementEnd, Xreplacement, Xaddress, XstartAnchor, XendAnchor, XatomCount, XatomChar, XatomStarred, Xoutput, Xpattern, Xhold, XactivationLine, Xresult⟩ := u
  obtain ⟨Yquiet, Yfuel, YscrLen, YinpLen, YhasTab, YnCmd, YoutLen, YpatLen, YholdLen, YlinesRead, YstepsUsed, Ytflag, YnAddr, Ya1K, Ya1V, Ya2K, Ya2V, Ycc, YlabS, YlabL, YsRe, YsRep, YadK, YadV, Yneg, YsG, YicN, Yna, YanS, YanE, YmJ, YrLen, Yscr, Yinp, YcmdPos, Yout, Ypat, Yhold, Yactive, Yact, Yic, Yie, YaC, YaAny, YaSt, Yrch, Ynx, Yrb⟩ := v
  have I0 := J
  obtain ⟨F, L, I, o, p, h, hF, hL, hI, ho, hp, hh, hch, ht, hT, rfl, rfl, rfl, rfl, rfl, rfl, rfl, rfl, rfl, rfl, rfl, rfl, rfl, rfl, rfl, rfl, rfl, rfl, rfl, rfl, rfl⟩ := I0
  unfold wpX_outputChar wpX_charOrRefused__output
  by_cases a : v1 < 0
  · exact br_t a (br_t a ⟨rfl, J⟩)
  · refine br_f a ?_
    by_cases b : v1 < nI o
    · obtain ⟨j, hj, rfl⟩ := nI_of a
      have hj2 := (nI_ltI hj (by omega)).mp b
      have vi : vp_in (nI j) 256 := vp_in_nI (by omega) (by omega)
      exact br_t b ⟨vi, br_f a (br_t b ⟨vi, rfl, J⟩)⟩
    · exact br_f b (br_f a (br_f b ⟨rfl, J⟩))
theorem i_vc_patternLength {k : Nat} {u : SX} {v : SY} (I : i_Rel k u v) (hk : k + 2 ≤ 1026) : wpX_patternLength (fun r => wpY_patternLength (fun r' => r' = r ∧ i_Rel (k + 2) u v) v) u := by
  have J := I
  clear I
  obtain ⟨Xquiet, Xfuel, XscriptSize, XinputSize, Xcursor, XitemCount, XtablePresent, XcommandCount, XoutputSize, XpatternSize, XholdSize, XlineNumber, XstepCount, XnextLine, Xpointer, Xsubstituted, XresultSize, Xscript, Xinput, Xitems, Xverb, Xnegated, Xeverywhere, XlabelStart, XlabelSize, Xtarget, XreplacementStart, XreplacementEnd, Xreplacement, Xaddress, XstartAnchor, XendAnchor, XatomCount, XatomChar, XatomStarred, Xoutput, Xpattern, Xhold, XactivationLine, Xresult⟩ := u
  obtain ⟨Yquiet, Yfuel, YscrLen, YinpLen, YhasTab, YnCmd, YoutLen, YpatLen, YholdLen, YlinesRead, YstepsUsed, Ytflag, YnAddr, Ya1K, Ya1V, Ya2K, Ya2V, Ycc, YlabS, YlabL, YsRe, YsRep, YadK, YadV, Yneg, YsG, YicN, Yna, YanS, YanE, YmJ, YrLen, Yscr, Yinp, YcmdPos, Yout, Ypat, Yhold, Yactive, Yact, Yic, Yie, YaC, YaAny, YaSt, Yrch, Ynx, Yrb⟩ := v
  have I0 := J
  obtain ⟨F, L, I, o, p, h, hF, hL, hI, ho, hp, hh, hch, ht, hT, rfl, rfl, rfl, rfl, rfl, rfl, rfl, rfl, rfl, rfl, rfl, rfl, rfl, rfl, rfl, rfl, rfl, rfl, rfl, rfl, rfl⟩ := I0
  exact ⟨rfl, J⟩
theorem i_vc_patternChar {k : Nat} {u : SX} {v : SY} (I : i_Rel k u v) (hk : k + 2 ≤ 1026) (v1 : Int32) : wpX_patternChar (fun r => wpY_patternChar (fun r' => r' = r ∧ i_Rel (k + 2) u v) v v1) u v1 := by
  have J := I
  clear I
  obtain ⟨Xquiet, Xfuel, XscriptSize, XinputSize, Xcursor, XitemCount, XtablePresent, XcommandCount, XoutputSize, XpatternSize, XholdSize, XlineNumber, XstepCount, XnextLine, Xpointer, Xsubstituted, XresultSize, Xscript, Xinput, Xitems, Xverb, Xnegated, Xeverywhere, XlabelStart, XlabelSize, Xtarget, XreplacementStart, XreplacementEnd, Xreplacement, Xaddress, XstartAnchor, XendAnchor, XatomCount, XatomChar, XatomStarred, Xoutput, Xpattern, Xhold, XactivationLine, Xresult⟩ := u
  obtain ⟨Yquiet, Yfuel, YscrLen, YinpLen, YhasTab, YnCmd, YoutLen, YpatLen, YholdLen, YlinesRead, YstepsUsed, Ytflag, YnAddr, Ya1K, Ya1V, Ya2K, Ya2V, Ycc, YlabS, YlabL, YsRe, YsRep, YadK, YadV, Yneg, YsG, YicN, Yna, YanS, YanE, YmJ, YrLen, Yscr, Yinp, YcmdPos, Yout, Ypat, Yhold, Yactive, Yact, Yic, Yie, YaC, YaAny, YaSt, Yrch, Ynx, Yrb⟩ := v
  have I0 := J
  obtain ⟨F, L, I, o, p, h, hF, hL, hI, ho, hp, hh, hch, ht, hT, rfl, rfl, rfl, rfl, rfl, rfl, rfl, rfl, rfl, rfl, rfl, rfl, rfl, rfl, rfl, rfl, rfl, rfl, rfl, rfl, rfl⟩ := I0
  unfold wpX_patternChar wpX_charOrRefused__pattern
  by_cases a : v1 < 0
  · exact br_t a (br_t a ⟨rfl, J⟩)
  · refine br_f a ?_
    by_cases b : v1 < nI p
    · obtain ⟨j, hj, rfl⟩ := nI_of a
      have hj2 := (nI_ltI hj (by omega)).mp b
      have vi : vp_in (nI j) 64 := vp_in_nI (by omega) (by omega)
      exact br_t b ⟨vi, br_f a (br_t b ⟨vi, rfl, J⟩)⟩
    · exact br_f b (br_f a (br_f b ⟨rfl, J⟩))
theorem i_vc_holdLength {k : Nat} {u : SX} {v : SY} (I : i_Rel k u v) (hk : k + 2 ≤ 1026) : wpX_holdLength (fun r => wpY_holdLength (fun r' => r' = r ∧ i_Rel (k + 2) u v) v) u := by
  have J := I
  clear I
  obtain ⟨Xquiet, Xfuel, XscriptSize, XinputSize, Xcursor, XitemCount, XtablePresent, XcommandCount, XoutputSize, XpatternSize, XholdSize, XlineNumber, XstepCount, XnextLine, Xpointer, Xsubstituted, XresultSize, Xscript, Xinput, Xitems, Xverb, Xnegated, Xeverywhere, XlabelStart, XlabelSize, Xtarget, XreplacementStart, XreplacementEnd, Xreplacement, Xaddress, XstartAnchor, XendAnchor, XatomCount, XatomChar, XatomStarred, Xoutput, Xpattern, Xhold, XactivationLine, Xresult⟩ := u
  obtain ⟨Yquiet, Yfuel, YscrLen, YinpLen, YhasTab, YnCmd, YoutLen, YpatLen, YholdLen, YlinesRead, YstepsUsed, Ytflag, YnAddr, Ya1K, Ya1V, Ya2K, Ya2V, Ycc, YlabS, YlabL, YsRe, YsRep, YadK, YadV, Yneg, YsG, YicN, Yna, YanS, YanE, YmJ, YrLen, Yscr, Yinp, YcmdPos, Yout, Ypat, Yhold, Yactive, Yact, Yic, Yie, YaC, YaAny, YaSt, Yrch, Ynx, Yrb⟩ := v
  have I0 := J
  obtain ⟨F, L, I, o, p, h, hF, hL, hI, ho, hp, hh, hch, ht, hT, rfl, rfl, rfl, rfl, rfl, rfl, rfl, rfl, rfl, rfl, rfl, rfl, rfl, rfl, rfl, rfl, rfl, rfl, rfl, rfl, rfl⟩ := I0
  exact ⟨rfl, J⟩
theorem i_vc_holdChar {k : Nat} {u : SX} {v : SY} (I : i_Rel k u v) (hk : k + 2 ≤ 1026) (v1 : Int32) : wpX_holdChar (fun r => wpY_holdChar (fun r' => r' = r ∧ i_Rel (k + 2) u v) v v1) u v1 := by
  have J := I
  clear I
  obtain ⟨Xquiet, Xfuel, XscriptSize, XinputSize, Xcursor, XitemCount, XtablePresent, XcommandCount, XoutputSize, XpatternSize, XholdSize, XlineNumber, XstepCount, XnextLine, Xpointer, Xsubstituted, XresultSize, Xscript, Xinput, Xitems, Xverb, Xnegated, Xeverywhere, XlabelStart, XlabelSize, Xtarget, XreplacementStart, XreplacementEnd, Xreplacement, Xaddress, XstartAnchor, XendAnchor, XatomCount, XatomChar, XatomStarred, Xoutput, Xpattern, Xhold, XactivationLine, Xresult⟩ := u
  obtain ⟨Yquiet, Yfuel, YscrLen, YinpLen, YhasTab, YnCmd, YoutLen, YpatLen, YholdLen, YlinesRead, YstepsUsed, Ytflag, YnAddr, Ya1K, Ya1V, Ya2K, Ya2V, Ycc, YlabS, YlabL, YsRe, YsRep, YadK, YadV, Yneg, YsG, YicN, Yna, YanS, YanE, YmJ, YrLen, Yscr, Yinp, YcmdPos, Yout, Ypat, Yhold, Yactive, Yact, Yic, Yie, YaC, YaAny, YaSt, Yrch, Ynx, Yrb⟩ := v
  have I0 := J
  obtain ⟨F, L, I, o, p, h, hF, hL, hI, ho, hp, hh, hch, ht, hT, rfl, rfl, rfl, rfl, rfl, rfl, rfl, rfl, rfl, rfl, rfl, rfl, rfl, rfl, rfl, rfl, rfl, rfl, rfl, rfl, rfl⟩ := I0
  unfold wpX_holdChar wpX_charOrRefused__hold
  by_cases a : v1 < 0
  · exact br_t a (br_t a ⟨rfl, J⟩)
  · refine br_f a ?_
    by_cases b : v1 < nI h
    · obtain ⟨j, hj, rfl⟩ := nI_of a
      have hj2 := (nI_ltI hj (by omega)).mp b
      have vi : vp_in (nI j) 64 := vp_in_nI (by omega) (by omega)
      exact br_t b ⟨vi, br_f a (br_t b ⟨vi, rfl, J⟩)⟩
    · exact br_f b (br_f a (br_f b ⟨rfl, J⟩))
theorem i_vc_linesRead {k : Nat} {u : SX} {v : SY} (I : i_Rel k u v) (hk : k + 2 ≤ 1026) : wpX_linesRead (fun r => wpY_linesRead (fun r' => r' = r ∧ i_Rel (k + 2) u v) v) u := by
  have J := I
  clear I
  obtain ⟨Xquiet, Xfuel, XscriptSize, XinputSize, Xcursor, XitemCount, XtablePresent, XcommandCount, XoutputSize, XpatternSize, XholdSize, XlineNumber, XstepCount, XnextLine, Xpointer, Xsubstituted, XresultSize, Xscript, Xinput, Xitems, Xverb, Xnegated, Xeverywhere, XlabelStart, XlabelSize, Xtarget, XreplacementStart, XreplacementEnd, Xreplacement, Xaddress, XstartAnchor, XendAnchor, XatomCount, XatomChar, XatomStarred, Xoutput, Xpattern, Xhold, XactivationLine, Xresult⟩ := u
  obtain ⟨Yquiet, Yfuel, YscrLen, YinpLen, YhasTab, YnCmd, YoutLen, YpatLen, YholdLen, YlinesRead, YstepsUsed, Ytflag, YnAddr, Ya1K, Ya1V, Ya2K, Ya2V, Ycc, YlabS, YlabL, YsRe, YsRep, YadK, YadV, Yneg, YsG, YicN, Yna, YanS, YanE, YmJ, YrLen, Yscr, Yinp, YcmdPos, Yout, Ypat, Yhold, Yactive, Yact, Yic, Yie, YaC, YaAny, YaSt, Yrch, Ynx, Yrb⟩ := v
  have I0 := J
  obtain ⟨F, L, I, o, p, h, hF, hL, hI, ho, hp, hh, hch, ht, hT, rfl, rfl, rfl, rfl, rfl, rfl, rfl, rfl, rfl, rfl, rfl, rfl, rfl, rfl, rfl, rfl, rfl, rfl, rfl, rfl, rfl⟩ := I0
  exact ⟨rfl, J⟩
theorem i_vc_stepsUsed {k : Nat} {u : SX} {v : SY} (I : i_Rel k u v) (hk : k + 2 ≤ 1026) : wpX_stepsUsed (fun r => wpY_stepsUsed (fun r' => r' = r ∧ i_Rel (k + 2) u v) v) u := by
  have J := I
  clear I
  obtain ⟨Xquiet, Xfuel, XscriptSize, XinputSize, Xcursor, XitemCount, XtablePresent, XcommandCount, XoutputSize, XpatternSize, XholdSize, XlineNumber, XstepCount, XnextLine, Xpointer, Xsubstituted, XresultSize, Xscript, Xinput, Xitems, Xverb, Xnegated, Xeverywhere, XlabelStart, XlabelSize, Xtarget, XreplacementStart, XreplacementEnd, Xreplacement, Xaddress, XstartAnchor, XendAnchor, XatomCount, XatomChar, XatomStarred, Xoutput, Xpattern, Xhold, XactivationLine, Xresult⟩ := u
  obtain ⟨Yquiet, Yfuel, YscrLen, YinpLen, YhasTab, YnCmd, YoutLen, YpatLen, YholdLen, YlinesRead, YstepsUsed, Ytflag, YnAddr, Ya1K, Ya1V, Ya2K, Ya2V, Ycc, YlabS, YlabL, YsRe, YsRep, YadK, YadV, Yneg, YsG, YicN, Yna, YanS, YanE, YmJ, YrLen, Yscr, Yinp, YcmdPos, Yout, Ypat, Yhold, Yactive, Yact, Yic, Yie, YaC, YaAny, YaSt, Yrch, Ynx, Yrb⟩ := v
  have I0 := J
  obtain ⟨F, L, I, o, p, h, hF, hL, hI, ho, hp, hh, hch, ht, hT, rfl, rfl, rfl, rfl, rfl, rfl, rfl, rfl, rfl, rfl, rfl, rfl, rfl, rfl, rfl, rfl, rfl, rfl, rfl, rfl, rfl⟩ := I0
  exact ⟨rfl, J⟩
end FI_1
