/-! X's compiler: the script's chars -/
section XR_1
variable {Xquiet Xfuel XscriptSize XinputSize Xcursor XitemCount XtablePresent XcommandCount XoutputSize XpatternSize XholdSize XlineNumber XstepCount XnextLine Xpointer Xsubstituted XresultSize : Int32} {Xscript Xinput Xitems Xverb Xnegated Xeverywhere XlabelStart XlabelSize Xtarget XreplacementStart XreplacementEnd Xreplacement Xaddress XstartAnchor XendAnchor XatomCount XatomChar XatomStarred Xoutput Xpattern Xhold XactivationLine Xresult : Nat → Int32}
def xp_v (s : Nat → Int32) (L q : Nat) : Int32 := if q < L then s q else -1
theorem xp_lo {s : Nat → Int32} {L q : Nat} (h : q < L) : xp_v s L q = s q := if_pos h
theorem xp_hi {s : Nat → Int32} {L q : Nat} (h : L ≤ q) : xp_v s L q = -1 := if_neg (by omega)
theorem ch_n1 {s : Nat → Int32} {L p : Nat} (hc : ch_ok s L) (h : p < L) : ¬ s p = -1 := by
  obtain ⟨m, hm, e⟩ := hc p h
  rw [e]
  intro y
  exact absurd (nI_pos (n := m) (by omega)) (by rw [y]; exact fun q => q (by decide))
theorem xm_peek {L q : Nat} {post : Int32 → Prop} (hL : L ≤ 128) (hq : q ≤ L) (h : post (xp_v Xscript L q)) : wpX_peek post (Xquiet, Xfuel, nI L, XinputSize, nI q, XitemCount, XtablePresent, XcommandCount, XoutputSize, XpatternSize, XholdSize, XlineNumber, XstepCount, XnextLine, Xpointer, Xsubstituted, XresultSize, Xscript, Xinput, Xitems, Xverb, Xnegated, Xeverywhere, XlabelStart, XlabelSize, Xtarget, XreplacementStart, XreplacementEnd, Xreplacement, Xaddress, XstartAnchor, XendAnchor, XatomCount, XatomChar, XatomStarred, Xoutput, Xpattern, Xhold, XactivationLine, Xresult) := by
  unfold wpX_peek
  refine pk_le L q (fun g => ?_) (fun g => ⟨pk_in q 128 (by omega), ?_⟩)
  · rw [xp_hi g] at h; exact h
  · rw [xp_lo g] at h; rw [nI_clamp (by omega)]; exact h
theorem xm_take {L q : Nat} {post : Int32 → SX → Prop} (hL : L ≤ 128) (hq : q ≤ L) (h : post (xp_v Xscript L q) (Xquiet, Xfuel, nI L, XinputSize, nI (q + 1), XitemCount, XtablePresent, XcommandCount, XoutputSize, XpatternSize, XholdSize, XlineNumber, XstepCount, XnextLine, Xpointer, Xsubstituted, XresultSize, Xscript, Xinput, Xitems, Xverb, Xnegated, Xeverywhere, XlabelStart, XlabelSize, Xtarget, XreplacementStart, XreplacementEnd, Xreplacement, Xaddress, XstartAnchor, XendAnchor, XatomCount, XatomChar, XatomStarred, Xoutput, Xpattern, Xhold, XactivationLine, Xresult)) : wpX_take post (Xquiet, Xfuel, nI L, XinputSize, nI q, XitemCount, XtablePresent, XcommandCount, XoutputSize, XpatternSize, XholdSize, XlineNumber, XstepCount, XnextLine, Xpointer, Xsubstituted, XresultSize, Xscript, Xinput, Xitems, Xverb, Xnegated, Xeverywhere, XlabelStart, XlabelSize, Xtarget, XreplacementStart, XreplacementEnd, Xreplacement, Xaddress, XstartAnchor, XendAnchor, XatomCount, XatomChar, XatomStarred, Xoutput, Xpattern, Xhold, XactivationLine, Xresult) := by
  unfold wpX_take
  refine pk_le L q (fun g => ?_) (fun g => ⟨pk_in q 128 (by omega), ?_⟩)
  · rw [xp_hi g] at h; exact nm_r (nI_1 q) h
  · rw [xp_lo g] at h; rw [nI_clamp (by omega)]; exact nm_r (nI_1 q) h
theorem xm_skipBlanks {L q : Nat} {post : SX → Prop} (hL : L ≤ 128) (hq : q ≤ L) (h : post (Xquiet, Xfuel, nI L, XinputSize, nI (cm_sk Xscript L q), XitemCount, XtablePresent, XcommandCount, XoutputSize, XpatternSize, XholdSize, XlineNumber, XstepCount, XnextLine, Xpointer, Xsubstituted, XresultSize, Xscript, Xinput, Xitems, Xverb, Xnegated, Xeverywhere, XlabelStart, XlabelSize, Xtarget, XreplacementStart, XreplacementEnd, Xreplacement, Xaddress, XstartAnchor, XendAnchor, XatomCount, XatomChar, XatomStarred, Xoutput, Xpattern, Xhold, XactivationLine, Xresult)) : wpX_skipBlanks post (Xquiet, Xfuel, nI L, XinputSize, nI q, XitemCount, XtablePresent, XcommandCount, XoutputSize, XpatternSize, XholdSize, XlineNumber, XstepCount, XnextLine, Xpointer, Xsubstituted, XresultSize, Xscript, Xinput, Xitems, Xverb, Xnegated, Xeverywhere, XlabelStart, XlabelSize, Xtarget, XreplacementStart, XreplacementEnd, Xreplacement, Xaddress, XstartAnchor, XendAnchor, XatomCount, XatomChar, XatomStarred, Xoutput, Xpattern, Xhold, XactivationLine, Xresult) := by
  unfold wpX_skipBlanks
  refine ⟨L - q + 1, ?_⟩
  refine sc_loop (fun n q => wX_skipBlanks_0 post Xquiet Xfuel (nI L) XinputSize XitemCount XtablePresent XcommandCount XoutputSize XpatternSize XholdSize XlineNumber XstepCount XnextLine Xpointer Xsubstituted XresultSize Xscript Xinput Xitems Xverb Xnegated Xeverywhere XlabelStart XlabelSize Xtarget XreplacementStart XreplacementEnd Xreplacement Xaddress XstartAnchor XendAnchor XatomCount XatomChar XatomStarred Xoutput Xpattern Xhold XactivationLine Xresult n (nI q)) (pb_b Xscript) L (fun q => post (Xquiet, Xfuel, nI L, XinputSize, nI q, XitemCount, XtablePresent, XcommandCount, XoutputSize, XpatternSize, XholdSize, XlineNumber, XstepCount, XnextLine, Xpointer, Xsubstituted, XresultSize, Xscript, Xinput, Xitems, Xverb, Xnegated, Xeverywhere, XlabelStart, XlabelSize, Xtarget, XreplacementStart, XreplacementEnd, Xreplacement, Xaddress, XstartAnchor, XendAnchor, XatomCount, XatomChar, XatomStarred, Xoutput, Xpattern, Xhold, XactivationLine, Xresult)) ?_ ?_ (L - q + 1) q hq (by omega) h
  · intro n q hq hp hW
    refine br_f (nI_ge hq (by omega)) ⟨pk_in q 128 (by omega), ?_⟩
    rw [nI_clamp (by omega)]
    exact br_t (of_decide_eq_true hp) (nm_r (nI_1 q) hW)
  · intro n q hq hp hR
    refine pk_le L q (fun g => hR) (fun g => ⟨pk_in q 128 (by omega), ?_⟩)
    rw [nI_clamp (by omega)]
    exact br_f (of_decide_eq_false (hp g)) hR
theorem xm_skipSep {L q : Nat} {post : SX → Prop} (hL : L ≤ 128) (hq : q ≤ L) (h : post (Xquiet, Xfuel, nI L, XinputSize, nI (sc_e (pb_z Xscript) L q), XitemCount, XtablePresent, XcommandCount, XoutputSize, XpatternSize, XholdSize, XlineNumber, XstepCount, XnextLine, Xpointer, Xsubstituted, XresultSize, Xscript, Xinput, Xitems, Xverb, Xnegated, Xeverywhere, XlabelStart, XlabelSize, Xtarget, XreplacementStart, XreplacementEnd, Xreplacement, Xaddress, XstartAnchor, XendAnchor, XatomCount, XatomChar, XatomStarred, Xoutput, Xpattern, Xhold, XactivationLine, Xresult)) : wpX_skipSeparators post (Xquiet, Xfuel, nI L, XinputSize, nI q, XitemCount, XtablePresent, XcommandCount, XoutputSize, XpatternSize, XholdSize, XlineNumber, XstepCount, XnextLine, Xpointer, Xsubstituted, XresultSize, Xscript, Xinput, Xitems, Xverb, Xnegated, Xeverywhere, XlabelStart, XlabelSize, Xtarget, XreplacementStart, XreplacementEnd, Xreplacement, Xaddress, XstartAnchor, XendAnchor, XatomCount, XatomChar, XatomStarred, Xoutput, Xpattern, Xhold, XactivationLine, Xresult) := by
  unfold wpX_skipSeparators
  refine ⟨L - q + 1, ?_⟩
  refine sc_loop (fun n q => wX_skipSeparators_0 post Xquiet Xfuel (nI L) XinputSize XitemCount XtablePresent XcommandCount XoutputSize XpatternSize XholdSize XlineNumber XstepCount XnextLine Xpointer Xsubstituted XresultSize Xscript Xinput Xitems Xverb Xnegated Xeverywhere XlabelStart XlabelSize Xtarget XreplacementStart XreplacementEnd Xreplacement Xaddress XstartAnchor XendAnchor XatomCount XatomChar XatomStarred Xoutput Xpattern Xhold XactivationLine Xresult n (nI q)) (pb_z Xscript) L (fun q => post (Xquiet, Xfuel, nI L, XinputSize, nI q, XitemCount, XtablePresent, XcommandCount, XoutputSize, XpatternSize, XholdSize, XlineNumber, XstepCount, XnextLine, Xpointer, Xsubstituted, XresultSize, Xscript, Xinput, Xitems, Xverb, Xnegated, Xeverywhere, XlabelStart, XlabelSize, Xtarget, XreplacementStart, XreplacementEnd, Xreplacement, Xaddress, XstartAnchor, XendAnchor, XatomCount, XatomChar, XatomStarred, Xoutput, Xpattern, Xhold, XactivationLine, Xresult)) ?_ ?_ (L - q + 1) q hq (by omega) h
  · intro n q hq hp hW
    have hp := of_decide_eq_true hp
    have hi : vp_in (nI q) 128 := pk_in q 128 (by omega)
    refine br_f (nI_ge hq (by omega)) ⟨hi, ?_⟩
    rw [nI_clamp (by omega)]
    refine br_c (fun _ => nm_r (nI_1 q) hW) (fun h1 => ⟨hi, br_c (fun _ => nm_r (nI_1 q) hW) (fun h2 => ⟨hi, br_t ?_ (nm_r (nI_1 q) hW)⟩)⟩)
    rcases hp with z | z | z
    · exact absurd z h1
    · exact absurd z h2
    · exact z
  · intro n q hq hp hR
    have hi : q < L → vp_in (nI q) 128 := fun g => pk_in q 128 (by omega)
    refine pk_le L q (fun g => hR) (fun g => ⟨hi g, ?_⟩)
    have hp := of_decide_eq_false (hp g)
    rw [nI_clamp (by omega)]
    exact br_f (fun z => hp (Or.inl z)) ⟨hi g, br_f (fun z => hp (Or.inr (Or.inl z))) ⟨hi g, br_f (fun z => hp (Or.inr (Or.inr z))) hR⟩⟩
theorem xm_isDigit {s : Nat → Int32} {q : Nat} {post : Int32 → Prop} (h : post (if pb_d s q = true then 1 else 0)) : wpX_isDigit post (s q) := by
  unfold pb_d at h
  refine br_c (fun a => ?_) (fun a => br_c (fun b => ?_) (fun b => ?_))
  · rw [if_neg (by rw [decide_eq_true_eq]; intro z; exact absurd a (Int32.not_lt.mpr z.1))] at h; exact h
  · rw [if_neg (by rw [decide_eq_true_eq]; intro z; exact absurd b (Int32.not_lt.mpr z.2))] at h; exact h
  · rw [if_pos (by rw [decide_eq_true_eq]; exact ⟨Int32.not_lt.mp a, Int32.not_lt.mp b⟩)] at h; exact h
/-- the same, of what peek answers -/
def xp_d (s : Nat → Int32) (L q : Nat) : Int32 := if q < L ∧ pb_d s q = true then 1 else 0
theorem xm_isDigit' {s : Nat → Int32} {L q : Nat} {post : Int32 → Prop} (h : post (xp_d s L q)) : wpX_isDigit post (xp_v s L q) := by
  by_cases g : q < L
  · rw [xp_lo g]
    refine xm_isDigit ?_
    unfold xp_d at h
    by_cases z : pb_d s q = true
    · rw [if_pos ⟨g, z⟩] at h; rw [if_pos z]; exact h
    · rw [if_neg (fun y => z y.2)] at h; rw [if_neg z]; exact h
  · rw [xp_hi (by omega)]
    unfold xp_d at h
    rw [if_neg (fun y => g y.1)] at h
    exact br_t (by decide) h
theorem xm_isLabel {s : Nat → Int32} {q : Nat} {post : Int32 → Prop} (h : post (if pb_l s q = true then 1 else 0)) : wpX_isLabelChar post (s q) := by
  have t : pb_l s q = true → post 1 := fun z => by rw [if_pos z] at h; exact h
  have f : ¬ pb_l s q = true → post 0 := fun z => by rw [if_neg z] at h; exact h
  have t : ((65 ≤ s q ∧ s q ≤ 90) ∨ (97 ≤ s q ∧ s q ≤ 122) ∨ (48 ≤ s q ∧ s q ≤ 57) ∨ s q = 95) → post 1 := fun z => t (decide_eq_true z)
  have f : ¬ ((65 ≤ s q ∧ s q ≤ 90) ∨ (97 ≤ s q ∧ s q ≤ 122) ∨ (48 ≤ s q ∧ s q ≤ 57) ∨ s q = 95) → post 0 := fun z => f (fun y => z (of_decide_eq_true y))
  have h36 : ¬ (65 ≤ s q ∧ s q ≤ 90) → ¬ (97 ≤ s q ∧ s q ≤ 122) → ¬ (48 ≤ s q ∧ s q ≤ 57) → wX_isLabelChar_36 post (s q) := fun a b c => br_c (fun d => t (Or.inr (Or.inr (Or.inr d)))) (fun d => f (fun z => by
    rcases z with z | z | z | z
    · exact a z
    · exact b z
    · exact c z
    · exact d z))
  have h24 : ¬ (65 ≤ s q ∧ s q ≤ 90) → ¬ (97 ≤ s q ∧ s q ≤ 122) → wX_isLabelChar_24 post (s q) := fun a b => br_c (fun d => h36 a b (fun z => absurd d (Int32.not_lt.mpr z.1))) (fun d => br_c (fun e => t (Or.inr (Or.inr (Or.inl ⟨Int32.not_lt.mp d, e⟩)))) (fun e => h36 a b (fun z => e z.2)))
  have h12 : ¬ (65 ≤ s q ∧ s q ≤ 90) → wX_isLabelChar_12 post (s q) := fun a => br_c (fun d => h24 a (fun z => absurd d (Int32.not_lt.mpr z.1))) (fun d => br_c (fun e => t (Or.inr (Or.inl ⟨Int32.not_lt.mp d, e⟩))) (fun e => h24 a (fun z => e z.2)))
  exact br_c (fun d => h12 (fun z => absurd d (Int32.not_lt.mpr z.1))) (fun d => br_c (fun e => t (Or.inl ⟨Int32.not_lt.mp d, e⟩)) (fun e => h12 (fun z => e z.2)))
def xp_l (s : Nat → Int32) (L q : Nat) : Int32 := if q < L ∧ pb_l s q = true then 1 else 0
theorem xm_isLabel' {s : Nat → Int32} {L q : Nat} {post : Int32 → Prop} (h : post (xp_l s L q)) : wpX_isLabelChar post (xp_v s L q) := by
  by_cases g : q < L
  · rw [xp_lo g]
    refine xm_isLabel ?_
    unfold xp_l at h
    by_cases z : pb_l s q = true
    · rw [if_pos ⟨g, z⟩] at h; rw [if_pos z]; exact h
    · rw [if_neg (fun y => z y.2)] at h; rw [if_neg z]; exact h
  · rw [xp_hi (by omega)]
    unfold xp_l at h
    rw [if_neg (fun y => g y.1)] at h
    exact br_t (by decide) (br_t (by decide) (br_t (by decide) (br_f (by decide) h)))
end XR_1
