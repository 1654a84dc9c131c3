/-! X's compiler: the address part, labels, the s command, the verb -/
section XP_1
variable {Xquiet Xfuel XscriptSize XinputSize Xcursor XitemCount XtablePresent XcommandCount XoutputSize XpatternSize XholdSize XlineNumber XstepCount XnextLine Xpointer Xsubstituted XresultSize : Int32} {Xscript Xinput Xitems Xverb Xnegated Xeverywhere XlabelStart XlabelSize Xtarget XreplacementStart XreplacementEnd Xreplacement Xaddress XstartAnchor XendAnchor XatomCount XatomChar XatomStarred Xoutput Xpattern Xhold XactivationLine Xresult : Nat → Int32}
/-- what a compile keeps -/
def xk_p (u : SX) : Int32 × Int32 × Int32 × Int32 × Int32 × Int32 × Int32 × Int32 × Int32 × Int32 × Int32 × (Nat → Int32) × (Nat → Int32) × (Nat → Int32) × (Nat → Int32) × (Nat → Int32) := match u with
  | (Xquiet, Xfuel, XscriptSize, XinputSize, Xcursor, XitemCount, XtablePresent, XcommandCount, XoutputSize, XpatternSize, XholdSize, XlineNumber, XstepCount, XnextLine, Xpointer, Xsubstituted, XresultSize, Xscript, Xinput, Xitems, Xverb, Xnegated, Xeverywhere, XlabelStart, XlabelSize, Xtarget, XreplacementStart, XreplacementEnd, Xreplacement, Xaddress, XstartAnchor, XendAnchor, XatomCount, XatomChar, XatomStarred, Xoutput, Xpattern, Xhold, XactivationLine, Xresult) => (Xquiet, Xfuel, XscriptSize, XinputSize, XtablePresent, XcommandCount, XoutputSize, XpatternSize, XholdSize, XlineNumber, XstepCount, Xscript, Xinput, Xoutput, Xpattern, Xhold)
/-- the slots below k * 3 are as they were -/
def xf_B (k : Nat) (adr sa ea ac ach ast adr' sa' ea' ac' ach' ast' : Nat → Int32) : Prop :=
  (∀ i, i < k * 3 → adr' i = adr i ∧ sa' i = sa i ∧ ea' i = ea i ∧ ac' i = ac i) ∧ (∀ i, i < k * 36 → ach' i = ach i ∧ ast' i = ast i)
theorem xf_AB {k j : Nat} {adr sa ea ac ach ast adr' sa' ea' ac' ach' ast' : Nat → Int32} (hj : k * 3 ≤ j) (h : xf_A j adr sa ea ac ach ast adr' sa' ea' ac' ach' ast') : xf_B k adr sa ea ac ach ast adr' sa' ea' ac' ach' ast' :=
  ⟨fun i hi => h.1 i (by omega), fun i hi => h.2 i (Or.inl (by omega))⟩
theorem xf_BB {k : Nat} {adr sa ea ac ach ast adr' sa' ea' ac' ach' ast' adr'' sa'' ea'' ac'' ach'' ast'' : Nat → Int32} (h : xf_B k adr sa ea ac ach ast adr' sa' ea' ac' ach' ast') (g : xf_B k adr' sa' ea' ac' ach' ast' adr'' sa'' ea'' ac'' ach'' ast'') : xf_B k adr sa ea ac ach ast adr'' sa'' ea'' ac'' ach'' ast'' :=
  ⟨fun i hi => ⟨(g.1 i hi).1.trans (h.1 i hi).1, (g.1 i hi).2.1.trans (h.1 i hi).2.1, (g.1 i hi).2.2.1.trans (h.1 i hi).2.2.1, (g.1 i hi).2.2.2.trans (h.1 i hi).2.2.2⟩, fun i hi => ⟨(g.2 i hi).1.trans (h.2 i hi).1, (g.2 i hi).2.trans (h.2 i hi).2⟩⟩
theorem xm_112 {L q k : Nat} {post : Int32 → SX → Prop} (hL : L ≤ 128) (hk : k < 16) (hq : q ≤ L) (h0 : Xnegated k = 0)
    (hg : ∀ ng, ng k = cm_g Xscript L q → (∀ i, ¬ i = k → ng i = Xnegated i) → post 1 (Xquiet, Xfuel, nI L, XinputSize, nI (cm_h Xscript L q), XitemCount, XtablePresent, nI k, XoutputSize, XpatternSize, XholdSize, XlineNumber, XstepCount, XnextLine, Xpointer, Xsubstituted, XresultSize, Xscript, Xinput, Xitems, Xverb, ng, Xeverywhere, XlabelStart, XlabelSize, Xtarget, XreplacementStart, XreplacementEnd, Xreplacement, Xaddress, XstartAnchor, XendAnchor, XatomCount, XatomChar, XatomStarred, Xoutput, Xpattern, Xhold, XactivationLine, Xresult)) :
    wX_readAddressPart_112 post Xquiet Xfuel (nI L) XinputSize (nI q) XitemCount XtablePresent (nI k) XoutputSize XpatternSize XholdSize XlineNumber XstepCount XnextLine Xpointer Xsubstituted XresultSize Xscript Xinput Xitems Xverb Xnegated Xeverywhere XlabelStart XlabelSize Xtarget XreplacementStart XreplacementEnd Xreplacement Xaddress XstartAnchor XendAnchor XatomCount XatomChar XatomStarred Xoutput Xpattern Xhold XactivationLine Xresult := by
  unfold wX_readAddressPart_112
  refine xm_peek hL hq ?_
  by_cases h : q < L ∧ Xscript q = 33
  · rw [xp_lo h.1]
    refine br_t h.2 (nm_r (nI_1 q) ⟨pk_in k 16 hk, nm_e ?_⟩)
    rw [nI_clamp (by omega)]
    refine xm_skipBlanks hL (by omega) ?_
    have := hg (upd Xnegated k 1) (by rw [pk_us]; unfold cm_g; rw [if_pos h]) (fun i hi => pk_un hi)
    rw [show cm_h Xscript L q = cm_sk Xscript L (q + 1) from by unfold cm_h; rw [if_pos h]] at this
    exact this
  · have := hg Xnegated (by rw [h0]; unfold cm_g; rw [if_neg h]) (fun i hi => rfl)
    rw [show cm_h Xscript L q = q from by unfold cm_h; rw [if_neg h]] at this
    refine br_f ?_ this
    by_cases g : q < L
    · rw [xp_lo g]; exact fun y => h ⟨g, y⟩
    · rw [xp_hi (by omega)]; decide
theorem xm_61 {L q k : Nat} {post : Int32 → SX → Prop} (hL : L ≤ 128) (hc : ch_ok Xscript L) (hk : k < 16) (hq : q < L) (hd : pb_d Xscript q = true ∨ Xscript q = 36 ∨ Xscript q = 47) (hn0 : Xnegated k = 0) (ha0 : Xaddress (k * 3 + 1) = 0)
    (hg : ∀ a it ic ng adr sa ea ac ach ast, cm_a Xscript L q = some a → ng k = a.2.2.2.1 → (∀ i, ¬ i = k → ng i = Xnegated i) → tb_A Xscript L adr sa ea ac ach ast (k * 3) a.2.1.1 a.2.1.2 → tb_A Xscript L adr sa ea ac ach ast (k * 3 + 1) a.2.2.1.1 a.2.2.1.2 → xf_B k Xaddress XstartAnchor XendAnchor XatomCount XatomChar XatomStarred adr sa ea ac ach ast → post 1 (Xquiet, Xfuel, nI L, XinputSize, nI a.2.2.2.2, ic, XtablePresent, nI k, XoutputSize, XpatternSize, XholdSize, XlineNumber, XstepCount, XnextLine, Xpointer, Xsubstituted, XresultSize, Xscript, Xinput, it, Xverb, ng, Xeverywhere, XlabelStart, XlabelSize, Xtarget, XreplacementStart, XreplacementEnd, Xreplacement, adr, sa, ea, ac, ach, ast, Xoutput, Xpattern, Xhold, XactivationLine, Xresult))
    (hb : cm_a Xscript L q = none → ∀ v, xk_p v = (Xquiet, Xfuel, nI L, XinputSize, XtablePresent, nI k, XoutputSize, XpatternSize, XholdSize, XlineNumber, XstepCount, Xscript, Xinput, Xoutput, Xpattern, Xhold) → post 0 v) :
    wX_readAddressPart_61 post (nI (k * 3)) (nI (k * 3 + 1)) Xquiet Xfuel (nI L) XinputSize (nI q) XitemCount XtablePresent (nI k) XoutputSize XpatternSize XholdSize XlineNumber XstepCount XnextLine Xpointer Xsubstituted XresultSize Xscript Xinput Xitems Xverb Xnegated Xeverywhere XlabelStart XlabelSize Xtarget XreplacementStart XreplacementEnd Xreplacement Xaddress XstartAnchor XendAnchor XatomCount XatomChar XatomStarred Xoutput Xpattern Xhold XactivationLine Xresult := by
  have ca : cm_a Xscript L q = (ad_x Xscript L q).bind (fun a =>
      if cm_sk Xscript L a.2.2 < L ∧ Xscript (cm_sk Xscript L a.2.2) = 44 then
        (ad_x Xscript L (cm_sk Xscript L (cm_sk Xscript L a.2.2 + 1))).map (fun b => (2, (a.1, a.2.1), (b.1, b.2.1), cm_g Xscript L (cm_sk Xscript L b.2.2), cm_h Xscript L (cm_sk Xscript L b.2.2)))
      else some (1, (a.1, a.2.1), (0, 0), cm_g Xscript L (cm_sk Xscript L a.2.2), cm_h Xscript L (cm_sk Xscript L a.2.2))) := by
    unfold cm_a
    rw [if_pos ⟨hq, hd⟩]
  unfold wX_readAddressPart_61
  refine xm_readAddress hL hc (by omega) (by omega) ?_ ?_
  · intro a it ic adr sa ea ac ach ast hax hA hF
    have fa := ad_x_f hax
    have f1 := cm_sk_f (s := Xscript) fa.2
    rw [hax] at ca
    dsimp only [Option.bind] at ca
    refine br_f (by decide) ?_
    refine xm_skipBlanks hL fa.2 ?_
    refine xm_peek hL f1.2 ?_
    by_cases hcm : cm_sk Xscript L a.2.2 < L ∧ Xscript (cm_sk Xscript L a.2.2) = 44
    · rw [xp_lo hcm.1]
      rw [if_pos hcm] at ca
      refine br_t hcm.2 (nm_r (nI_1 _) ?_)
      have f2 := cm_sk_f (s := Xscript) (show cm_sk Xscript L a.2.2 + 1 ≤ L by omega)
      refine xm_skipBlanks hL (by omega) ?_
      refine xm_readAddress hL hc (by omega) f2.2 ?_ ?_
      · intro b it' ic' adr' sa' ea' ac' ach' ast' hbx hB hF'
        have fb := ad_x_f hbx
        have f3 := cm_sk_f (s := Xscript) fb.2
        rw [hbx] at ca
        refine br_f (by decide) ?_
        refine xm_skipBlanks hL fb.2 ?_
        refine xm_112 hL hk f3.2 hn0 ?_
        intro ng hng hnf
        refine hg _ _ _ _ _ _ _ _ _ _ ca hng hnf ?_ hB (xf_BB (xf_AB (by omega) hF) (xf_AB (by omega) hF'))
        have w := hF'.1 (k * 3) (by omega)
        exact tb_A_fr w.1 w.2.1 w.2.2.1 w.2.2.2 (fun x h1 h2 => hF'.2 x (Or.inl (by omega))) hA
      · intro hbx cu ic' it' adr' sa' ea' ac' ach' ast'
        rw [hbx] at ca
        refine br_t rfl ?_
        exact hb ca _ rfl
    · rw [if_neg hcm] at ca
      refine br_f ?_ ?_
      · by_cases g : cm_sk Xscript L a.2.2 < L
        · rw [xp_lo g]; exact fun y => hcm ⟨g, y⟩
        · rw [xp_hi (by omega)]; decide
      · refine xm_112 hL hk f1.2 hn0 ?_
        intro ng hng hnf
        refine hg _ _ _ _ _ _ _ _ _ _ ca hng hnf hA (Or.inl ⟨rfl, ?_⟩) (xf_AB (by omega) hF)
        rw [(hF.1 (k * 3 + 1) (by omega)).1]
        exact ha0
  · intro hax cu ic it adr sa ea ac ach ast
    rw [hax] at ca
    refine br_t rfl ?_
    exact hb ca _ rfl
theorem xm_addrPart {L q k : Nat} {post : Int32 → SX → Prop} (hL : L ≤ 128) (hc : ch_ok Xscript L) (hk : k < 16) (hq : q < L)
    (hg : ∀ a it ic ng adr sa ea ac ach ast, cm_a Xscript L q = some a → ng k = a.2.2.2.1 → (∀ i, ¬ i = k → ng i = Xnegated i) → tb_A Xscript L adr sa ea ac ach ast (k * 3) a.2.1.1 a.2.1.2 → tb_A Xscript L adr sa ea ac ach ast (k * 3 + 1) a.2.2.1.1 a.2.2.1.2 → xf_B k Xaddress XstartAnchor XendAnchor XatomCount XatomChar XatomStarred adr sa ea ac ach ast → post 1 (Xquiet, Xfuel, nI L, XinputSize, nI a.2.2.2.2, ic, XtablePresent, nI k, XoutputSize, XpatternSize, XholdSize, XlineNumber, XstepCount, XnextLine, Xpointer, Xsubstituted, XresultSize, Xscript, Xinput, it, Xverb, ng, Xeverywhere, XlabelStart, XlabelSize, Xtarget, XreplacementStart, XreplacementEnd, Xreplacement, adr, sa, ea, ac, ach, ast, Xoutput, Xpattern, Xhold, XactivationLine, Xresult))
    (hb : cm_a Xscript L q = none → ∀ v, xk_p v = (Xquiet, Xfuel, nI L, XinputSize, XtablePresent, nI k, XoutputSize, XpatternSize, XholdSize, XlineNumber, XstepCount, Xscript, Xinput, Xoutput, Xpattern, Xhold) → post 0 v) :
    wpX_readAddressPart post (Xquiet, Xfuel, nI L, XinputSize, nI q, XitemCount, XtablePresent, nI k, XoutputSize, XpatternSize, XholdSize, XlineNumber, XstepCount, XnextLine, Xpointer, Xsubstituted, XresultSize, Xscript, Xinput, Xitems, Xverb, Xnegated, Xeverywhere, XlabelStart, XlabelSize, Xtarget, XreplacementStart, XreplacementEnd, Xreplacement, Xaddress, XstartAnchor, XendAnchor, XatomCount, XatomChar, XatomStarred, Xoutput, Xpattern, Xhold, XactivationLine, Xresult) := by
  unfold wpX_readAddressPart
  refine nm_r (pk_mul k 3) (nm_r (nI_1 (k * 3)) ⟨pk_in (k * 3) 48 (by omega), nm_e ⟨pk_in (k * 3 + 1) 48 (by omega), nm_e ⟨pk_in k 16 hk, nm_e ?_⟩⟩⟩)
  rw [nI_clamp (show k * 3 < 2 ^ 31 by omega), nI_clamp (show k * 3 + 1 < 2 ^ 31 by omega), nI_clamp (show k < 2 ^ 31 by omega), ba_vb0]
  have h61 : (pb_d Xscript q = true ∨ Xscript q = 36 ∨ Xscript q = 47) → wX_readAddressPart_61 post (nI (k * 3)) (nI (k * 3 + 1)) Xquiet Xfuel (nI L) XinputSize (nI q) XitemCount XtablePresent (nI k) XoutputSize XpatternSize XholdSize XlineNumber XstepCount XnextLine Xpointer Xsubstituted XresultSize Xscript Xinput Xitems Xverb (upd Xnegated k 0) Xeverywhere XlabelStart XlabelSize Xtarget XreplacementStart XreplacementEnd Xreplacement (upd (upd Xaddress (k * 3) 0) (k * 3 + 1) 0) XstartAnchor XendAnchor XatomCount XatomChar XatomStarred Xoutput Xpattern Xhold XactivationLine Xresult := fun hd => xm_61 hL hc hk hq hd pk_us pk_us (fun a it ic ng adr sa ea ac ach ast h1 h2 h3 h4 h5 h6 => hg a it ic ng adr sa ea ac ach ast h1 h2 (fun i hi => (h3 i hi).trans (pk_un hi)) h4 h5 ⟨fun i hi => ⟨(h6.1 i hi).1.trans (by rw [pk_un (by omega), pk_un (by omega)]), (h6.1 i hi).2⟩, h6.2⟩) hb
  refine xm_peek hL (by omega) ?_
  refine xm_isDigit' ?_
  rw [xp_lo hq]
  by_cases hd : pb_d Xscript q = true
  · rw [show xp_d Xscript L q = 1 from by unfold xp_d; rw [if_pos ⟨hq, hd⟩]]
    exact br_f (by decide) (h61 (Or.inl hd))
  · rw [show xp_d Xscript L q = 0 from by unfold xp_d; rw [if_neg (fun y => hd y.2)]]
    refine br_t rfl (br_c (fun h => h61 (Or.inr (Or.inl h))) (fun h => br_c (fun h' => h61 (Or.inr (Or.inr h'))) (fun h' => ?_)))
    refine hg (0, (0, 0), (0, 0), 0, q) _ _ _ _ _ _ _ _ _ ?_ pk_us (fun i hi => pk_un hi) (Or.inl ⟨rfl, ?_⟩) (Or.inl ⟨rfl, pk_us⟩) ⟨fun i hi => ⟨?_, rfl, rfl, rfl⟩, fun i hi => ⟨rfl, rfl⟩⟩
    · unfold cm_a
      rw [if_neg]
      intro y
      rcases y.2 with z | z | z
      · exact hd z
      · exact h z
      · exact h' z
    · rw [pk_un (by omega), pk_us]
    · rw [pk_un (by omega), pk_un (by omega)]
theorem xm_lab {L l k least : Nat} {post : Int32 → SX → Prop} (hL : L ≤ 128) (hk : k < 16) (hl : l ≤ L) (hle : least ≤ 1)
    (hg : sc_e (pb_l Xscript) L l - l ≤ 8 → least ≤ sc_e (pb_l Xscript) L l - l → post 1 (Xquiet, Xfuel, nI L, XinputSize, nI (sc_e (pb_l Xscript) L l), XitemCount, XtablePresent, nI k, XoutputSize, XpatternSize, XholdSize, XlineNumber, XstepCount, XnextLine, Xpointer, Xsubstituted, XresultSize, Xscript, Xinput, Xitems, Xverb, Xnegated, Xeverywhere, XlabelStart, upd XlabelSize k (nI (sc_e (pb_l Xscript) L l - l)), Xtarget, XreplacementStart, XreplacementEnd, Xreplacement, Xaddress, XstartAnchor, XendAnchor, XatomCount, XatomChar, XatomStarred, Xoutput, Xpattern, Xhold, XactivationLine, Xresult))
    (hb : (8 < sc_e (pb_l Xscript) L l - l ∨ sc_e (pb_l Xscript) L l - l < least) → ∀ cu lsz, post 0 (Xquiet, Xfuel, nI L, XinputSize, cu, XitemCount, XtablePresent, nI k, XoutputSize, XpatternSize, XholdSize, XlineNumber, XstepCount, XnextLine, Xpointer, Xsubstituted, XresultSize, Xscript, Xinput, Xitems, Xverb, Xnegated, Xeverywhere, XlabelStart, lsz, Xtarget, XreplacementStart, XreplacementEnd, Xreplacement, Xaddress, XstartAnchor, XendAnchor, XatomCount, XatomChar, XatomStarred, Xoutput, Xpattern, Xhold, XactivationLine, Xresult)) :
    ∀ f i, 9 - i < f → i ≤ 9 → i ≤ sc_e (pb_l Xscript) L l - l → wX_readLabel_24 post (nI least) Xquiet Xfuel (nI L) XinputSize XitemCount XtablePresent (nI k) XoutputSize XpatternSize XholdSize XlineNumber XstepCount XnextLine Xpointer Xsubstituted XresultSize Xscript Xinput Xitems Xverb Xnegated Xeverywhere XlabelStart XlabelSize Xtarget XreplacementStart XreplacementEnd Xreplacement Xaddress XstartAnchor XendAnchor XatomCount XatomChar XatomStarred Xoutput Xpattern Xhold XactivationLine Xresult f (nI i) (xp_v Xscript L (l + i)) (nI (l + i)) := by
  have hf := sc_facts (P := pb_l Xscript) hl
  have h58 : ∀ i, i ≤ 9 → (i = sc_e (pb_l Xscript) L l - l ∨ (i = 9 ∧ i ≤ sc_e (pb_l Xscript) L l - l)) → wX_readLabel_58 post (nI least) (nI i) Xquiet Xfuel (nI L) XinputSize (nI (l + i)) XitemCount XtablePresent (nI k) XoutputSize XpatternSize XholdSize XlineNumber XstepCount XnextLine Xpointer Xsubstituted XresultSize Xscript Xinput Xitems Xverb Xnegated Xeverywhere XlabelStart XlabelSize Xtarget XreplacementStart XreplacementEnd Xreplacement Xaddress XstartAnchor XendAnchor XatomCount XatomChar XatomStarred Xoutput Xpattern Xhold XactivationLine Xresult := by
    intro i h9 hi
    refine ⟨pk_in k 16 hk, nm_e ?_⟩
    rw [nI_clamp (by omega)]
    refine pk_lt i least (fun w => hb (by omega) _ _) (fun w => pk_lt 8 i (fun w2 => hb (by omega) _ _) (fun w2 => ?_))
    have e : i = sc_e (pb_l Xscript) L l - l := by omega
    have := hg (by omega) (by omega)
    rw [← e, show sc_e (pb_l Xscript) L l = l + i by omega] at this
    exact this
  intro f
  induction f with
  | zero => intro i h; omega
  | succ f ih =>
  intro i hfu h9 hi
  refine pk_lt 8 i (fun w => h58 i h9 (Or.inr ⟨by omega, hi⟩)) (fun w => ?_)
  refine xm_isLabel' ?_
  by_cases z : i = sc_e (pb_l Xscript) L l - l
  · have e : xp_l Xscript L (l + i) = 0 := by
      unfold xp_l
      rw [if_neg]
      intro y
      have e2 : l + i = sc_e (pb_l Xscript) L l := by omega
      rw [e2] at y
      have := hf.2.2.2 y.1
      rw [this] at y
      exact absurd y.2 (by decide)
    rw [e]
    exact br_t rfl (h58 i h9 (Or.inl z))
  · have hd := hf.2.2.1 (l + i) (by omega) (by omega)
    have hlt : l + i < L := by omega
    have e : xp_l Xscript L (l + i) = 1 := by
      unfold xp_l
      rw [if_pos ⟨hlt, hd⟩]
    rw [e]
    refine br_f (by decide) (nm_r (nI_1 i) (nm_r (nI_1 (l + i)) ?_))
    refine xm_peek hL (by omega) ?_
    exact ih (i + 1) (by omega) (by omega) (by omega)
theorem xm_readLabel {L q k least : Nat} {post : Int32 → SX → Prop} (hL : L ≤ 128) (hk : k < 16) (hq : q ≤ L) (hle : least ≤ 1)
    (hg : cm_le Xscript L q - cm_ls Xscript L q ≤ 8 → least ≤ cm_le Xscript L q - cm_ls Xscript L q → post 1 (Xquiet, Xfuel, nI L, XinputSize, nI (cm_le Xscript L q), XitemCount, XtablePresent, nI k, XoutputSize, XpatternSize, XholdSize, XlineNumber, XstepCount, XnextLine, Xpointer, Xsubstituted, XresultSize, Xscript, Xinput, Xitems, Xverb, Xnegated, Xeverywhere, upd XlabelStart k (nI (cm_ls Xscript L q)), upd XlabelSize k (nI (cm_le Xscript L q - cm_ls Xscript L q)), Xtarget, XreplacementStart, XreplacementEnd, Xreplacement, Xaddress, XstartAnchor, XendAnchor, XatomCount, XatomChar, XatomStarred, Xoutput, Xpattern, Xhold, XactivationLine, Xresult))
    (hb : (8 < cm_le Xscript L q - cm_ls Xscript L q ∨ cm_le Xscript L q - cm_ls Xscript L q < least) → ∀ cu lst lsz, post 0 (Xquiet, Xfuel, nI L, XinputSize, cu, XitemCount, XtablePresent, nI k, XoutputSize, XpatternSize, XholdSize, XlineNumber, XstepCount, XnextLine, Xpointer, Xsubstituted, XresultSize, Xscript, Xinput, Xitems, Xverb, Xnegated, Xeverywhere, lst, lsz, Xtarget, XreplacementStart, XreplacementEnd, Xreplacement, Xaddress, XstartAnchor, XendAnchor, XatomCount, XatomChar, XatomStarred, Xoutput, Xpattern, Xhold, XactivationLine, Xresult)) :
    wpX_readLabel post (Xquiet, Xfuel, nI L, XinputSize, nI q, XitemCount, XtablePresent, nI k, XoutputSize, XpatternSize, XholdSize, XlineNumber, XstepCount, XnextLine, Xpointer, Xsubstituted, XresultSize, Xscript, Xinput, Xitems, Xverb, Xnegated, Xeverywhere, XlabelStart, XlabelSize, Xtarget, XreplacementStart, XreplacementEnd, Xreplacement, Xaddress, XstartAnchor, XendAnchor, XatomCount, XatomChar, XatomStarred, Xoutput, Xpattern, Xhold, XactivationLine, Xresult) (nI least) := by
  unfold wpX_readLabel
  have f := cm_sk_f (s := Xscript) hq
  refine xm_skipBlanks hL hq ?_
  refine ⟨pk_in k 16 hk, nm_e ?_⟩
  rw [nI_clamp (by omega)]
  refine xm_peek hL f.2 ?_
  exact ⟨10, xm_lab hL hk f.2 hle hg (fun h cu lsz => hb h cu _ lsz) 10 0 (by omega) (by omega) (by omega)⟩
theorem xm_cmdEnd {L q k : Nat} {post : Int32 → SX → Prop} (hL : L ≤ 128) (hc : ch_ok Xscript L) (hq : q ≤ L)
    (hg : ¬ (cm_sk Xscript L q < L ∧ ¬ Xscript (cm_sk Xscript L q) = 59 ∧ ¬ Xscript (cm_sk Xscript L q) = 10) → post 1 (Xquiet, Xfuel, nI L, XinputSize, nI (cm_sk Xscript L q), XitemCount, XtablePresent, XcommandCount, XoutputSize, XpatternSize, XholdSize, XlineNumber, XstepCount, XnextLine, Xpointer, Xsubstituted, XresultSize, Xscript, Xinput, Xitems, Xverb, Xnegated, Xeverywhere, XlabelStart, XlabelSize, Xtarget, XreplacementStart, XreplacementEnd, Xreplacement, Xaddress, XstartAnchor, XendAnchor, XatomCount, XatomChar, XatomStarred, Xoutput, Xpattern, Xhold, XactivationLine, Xresult))
    (hb : (cm_sk Xscript L q < L ∧ ¬ Xscript (cm_sk Xscript L q) = 59 ∧ ¬ Xscript (cm_sk Xscript L q) = 10) → post 0 (Xquiet, Xfuel, nI L, XinputSize, nI (cm_sk Xscript L q), XitemCount, XtablePresent, XcommandCount, XoutputSize, XpatternSize, XholdSize, XlineNumber, XstepCount, XnextLine, Xpointer, Xsubstituted, XresultSize, Xscript, Xinput, Xitems, Xverb, Xnegated, Xeverywhere, XlabelStart, XlabelSize, Xtarget, XreplacementStart, XreplacementEnd, Xreplacement, Xaddress, XstartAnchor, XendAnchor, XatomCount, XatomChar, XatomStarred, Xoutput, Xpattern, Xhold, XactivationLine, Xresult)) :
    wpX_readCommandEnd post (Xquiet, Xfuel, nI L, XinputSize, nI q, XitemCount, XtablePresent, XcommandCount, XoutputSize, XpatternSize, XholdSize, XlineNumber, XstepCount, XnextLine, Xpointer, Xsubstituted, XresultSize, Xscript, Xinput, Xitems, Xverb, Xnegated, Xeverywhere, XlabelStart, XlabelSize, Xtarget, XreplacementStart, XreplacementEnd, Xreplacement, Xaddress, XstartAnchor, XendAnchor, XatomCount, XatomChar, XatomStarred, Xoutput, Xpattern, Xhold, XactivationLine, Xresult) := by
  unfold wpX_readCommandEnd
  have f := cm_sk_f (s := Xscript) hq
  refine xm_skipBlanks hL hq ?_
  refine xm_peek hL f.2 ?_
  by_cases g : cm_sk Xscript L q < L
  · rw [xp_lo g]
    refine br_f (ch_n1 hc g) (br_c (fun h => hg (fun y => y.2.1 h)) (fun h => br_c (fun h' => hg (fun y => y.2.2 h')) (fun h' => hb ⟨g, h, h'⟩)))
  · rw [xp_hi (by omega)]
    exact br_t rfl (hg (fun y => g y.1))
end XP_1
