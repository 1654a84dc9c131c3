/-! X: copying, printing, lines, addresses -/
section XN_1
variable {Xquiet Xfuel XscriptSize XinputSize Xcursor XitemCount XtablePresent XcommandCount XoutputSize XpatternSize XholdSize XlineNumber XstepCount XnextLine Xpointer Xsubstituted XresultSize : Int32} {Xscript Xinput Xitems Xverb Xnegated Xeverywhere XlabelStart XlabelSize Xtarget XreplacementStart XreplacementEnd Xreplacement Xaddress XstartAnchor XendAnchor XatomCount XatomChar XatomStarred Xoutput Xpattern Xhold XactivationLine Xresult : Nat → Int32}
theorem xm_cp_input_pattern {a b n : Nat} {post : SX → Prop} (ha : a + n ≤ 128) (hb : b + n ≤ 64) (h : post (Xquiet, Xfuel, XscriptSize, XinputSize, Xcursor, XitemCount, XtablePresent, XcommandCount, XoutputSize, XpatternSize, XholdSize, XlineNumber, XstepCount, XnextLine, Xpointer, Xsubstituted, XresultSize, Xscript, Xinput, Xitems, Xverb, Xnegated, Xeverywhere, XlabelStart, XlabelSize, Xtarget, XreplacementStart, XreplacementEnd, Xreplacement, Xaddress, XstartAnchor, XendAnchor, XatomCount, XatomChar, XatomStarred, Xoutput, cp_y Xinput a Xpattern b n, Xhold, XactivationLine, Xresult)) : wpX_copyChars__input_pattern post (Xquiet, Xfuel, XscriptSize, XinputSize, Xcursor, XitemCount, XtablePresent, XcommandCount, XoutputSize, XpatternSize, XholdSize, XlineNumber, XstepCount, XnextLine, Xpointer, Xsubstituted, XresultSize, Xscript, Xinput, Xitems, Xverb, Xnegated, Xeverywhere, XlabelStart, XlabelSize, Xtarget, XreplacementStart, XreplacementEnd, Xreplacement, Xaddress, XstartAnchor, XendAnchor, XatomCount, XatomChar, XatomStarred, Xoutput, Xpattern, Xhold, XactivationLine, Xresult) (nI a) (nI b) (nI n) := by
  unfold wpX_copyChars__input_pattern
  have loop : ∀ f x, n - x < f → x ≤ n → wX_copyChars__input_pattern_3 post (nI a) (nI b) (nI n) Xquiet Xfuel XscriptSize XinputSize Xcursor XitemCount XtablePresent XcommandCount XoutputSize XpatternSize XholdSize XlineNumber XstepCount XnextLine Xpointer Xsubstituted XresultSize f (nI x) Xscript Xinput Xitems Xverb Xnegated Xeverywhere XlabelStart XlabelSize Xtarget XreplacementStart XreplacementEnd Xreplacement Xaddress XstartAnchor XendAnchor XatomCount XatomChar XatomStarred Xoutput (cp_y Xinput a Xpattern b x) Xhold XactivationLine Xresult := by
    intro f
    induction f with
    | zero => intro x h; exact absurd h (Nat.not_lt_zero _)
    | succ f ih =>
    intro x hf hx
    refine pk_le n x (fun w => ?_) (fun w => ?_)
    · rw [show x = n by omega]; exact h
    · rw [nI_add, nI_add]
      refine ⟨vp_in_nI (by omega) (by omega), vp_in_nI (by omega) (by omega), nm_e (nm_r (nI_1 x) ?_)⟩
      rw [nI_clamp (by omega), nI_clamp (by omega), cp_s]
      exact ih (x + 1) (by omega) (by omega)
  have := loop (n + 1) 0 (by omega) (by omega)
  rw [cp_0] at this
  exact ⟨_, this⟩
theorem xm_cp_result_pattern {a b n : Nat} {post : SX → Prop} (ha : a + n ≤ 64) (hb : b + n ≤ 64) (h : post (Xquiet, Xfuel, XscriptSize, XinputSize, Xcursor, XitemCount, XtablePresent, XcommandCount, XoutputSize, XpatternSize, XholdSize, XlineNumber, XstepCount, XnextLine, Xpointer, Xsubstituted, XresultSize, Xscript, Xinput, Xitems, Xverb, Xnegated, Xeverywhere, XlabelStart, XlabelSize, Xtarget, XreplacementStart, XreplacementEnd, Xreplacement, Xaddress, XstartAnchor, XendAnchor, XatomCount, XatomChar, XatomStarred, Xoutput, cp_y Xresult a Xpattern b n, Xhold, XactivationLine, Xresult)) : wpX_copyChars__result_pattern post (Xquiet, Xfuel, XscriptSize, XinputSize, Xcursor, XitemCount, XtablePresent, XcommandCount, XoutputSize, XpatternSize, XholdSize, XlineNumber, XstepCount, XnextLine, Xpointer, Xsubstituted, XresultSize, Xscript, Xinput, Xitems, Xverb, Xnegated, Xeverywhere, XlabelStart, XlabelSize, Xtarget, XreplacementStart, XreplacementEnd, Xreplacement, Xaddress, XstartAnchor, XendAnchor, XatomCount, XatomChar, XatomStarred, Xoutput, Xpattern, Xhold, XactivationLine, Xresult) (nI a) (nI b) (nI n) := by
  unfold wpX_copyChars__result_pattern
  have loop : ∀ f x, n - x < f → x ≤ n → wX_copyChars__result_pattern_3 post (nI a) (nI b) (nI n) Xquiet Xfuel XscriptSize XinputSize Xcursor XitemCount XtablePresent XcommandCount XoutputSize XpatternSize XholdSize XlineNumber XstepCount XnextLine Xpointer Xsubstituted XresultSize f (nI x) Xscript Xinput Xitems Xverb Xnegated Xeverywhere XlabelStart XlabelSize Xtarget XreplacementStart XreplacementEnd Xreplacement Xaddress XstartAnchor XendAnchor XatomCount XatomChar XatomStarred Xoutput (cp_y Xresult a Xpattern b x) Xhold XactivationLine Xresult := by
    intro f
    induction f with
    | zero => intro x h; exact absurd h (Nat.not_lt_zero _)
    | succ f ih =>
    intro x hf hx
    refine pk_le n x (fun w => ?_) (fun w => ?_)
    · rw [show x = n by omega]; exact h
    · rw [nI_add, nI_add]
      refine ⟨vp_in_nI (by omega) (by omega), vp_in_nI (by omega) (by omega), nm_e (nm_r (nI_1 x) ?_)⟩
      rw [nI_clamp (by omega), nI_clamp (by omega), cp_s]
      exact ih (x + 1) (by omega) (by omega)
  have := loop (n + 1) 0 (by omega) (by omega)
  rw [cp_0] at this
  exact ⟨_, this⟩
theorem xm_cp_pattern_output {a b n : Nat} {post : SX → Prop} (ha : a + n ≤ 64) (hb : b + n ≤ 256) (h : post (Xquiet, Xfuel, XscriptSize, XinputSize, Xcursor, XitemCount, XtablePresent, XcommandCount, XoutputSize, XpatternSize, XholdSize, XlineNumber, XstepCount, XnextLine, Xpointer, Xsubstituted, XresultSize, Xscript, Xinput, Xitems, Xverb, Xnegated, Xeverywhere, XlabelStart, XlabelSize, Xtarget, XreplacementStart, XreplacementEnd, Xreplacement, Xaddress, XstartAnchor, XendAnchor, XatomCount, XatomChar, XatomStarred, cp_y Xpattern a Xoutput b n, Xpattern, Xhold, XactivationLine, Xresult)) : wpX_copyChars__pattern_output post (Xquiet, Xfuel, XscriptSize, XinputSize, Xcursor, XitemCount, XtablePresent, XcommandCount, XoutputSize, XpatternSize, XholdSize, XlineNumber, XstepCount, XnextLine, Xpointer, Xsubstituted, XresultSize, Xscript, Xinput, Xitems, Xverb, Xnegated, Xeverywhere, XlabelStart, XlabelSize, Xtarget, XreplacementStart, XreplacementEnd, Xreplacement, Xaddress, XstartAnchor, XendAnchor, XatomCount, XatomChar, XatomStarred, Xoutput, Xpattern, Xhold, XactivationLine, Xresult) (nI a) (nI b) (nI n) := by
  unfold wpX_copyChars__pattern_output
  have loop : ∀ f x, n - x < f → x ≤ n → wX_copyChars__pattern_output_3 post (nI a) (nI b) (nI n) Xquiet Xfuel XscriptSize XinputSize Xcursor XitemCount XtablePresent XcommandCount XoutputSize XpatternSize XholdSize XlineNumber XstepCount XnextLine Xpointer Xsubstituted XresultSize f (nI x) Xscript Xinput Xitems Xverb Xnegated Xeverywhere XlabelStart XlabelSize Xtarget XreplacementStart XreplacementEnd Xreplacement Xaddress XstartAnchor XendAnchor XatomCount XatomChar XatomStarred (cp_y Xpattern a Xoutput b x) Xpattern Xhold XactivationLine Xresult := by
    intro f
    induction f with
    | zero => intro x h; exact absurd h (Nat.not_lt_zero _)
    | succ f ih =>
    intro x hf hx
    refine pk_le n x (fun w => ?_) (fun w => ?_)
    · rw [show x = n by omega]; exact h
    · rw [nI_add, nI_add]
      refine ⟨vp_in_nI (by omega) (by omega), vp_in_nI (by omega) (by omega), nm_e (nm_r (nI_1 x) ?_)⟩
      rw [nI_clamp (by omega), nI_clamp (by omega), cp_s]
      exact ih (x + 1) (by omega) (by omega)
  have := loop (n + 1) 0 (by omega) (by omega)
  rw [cp_0] at this
  exact ⟨_, this⟩
theorem xm_cp_pattern_hold {a b n : Nat} {post : SX → Prop} (ha : a + n ≤ 64) (hb : b + n ≤ 64) (h : post (Xquiet, Xfuel, XscriptSize, XinputSize, Xcursor, XitemCount, XtablePresent, XcommandCount, XoutputSize, XpatternSize, XholdSize, XlineNumber, XstepCount, XnextLine, Xpointer, Xsubstituted, XresultSize, Xscript, Xinput, Xitems, Xverb, Xnegated, Xeverywhere, XlabelStart, XlabelSize, Xtarget, XreplacementStart, XreplacementEnd, Xreplacement, Xaddress, XstartAnchor, XendAnchor, XatomCount, XatomChar, XatomStarred, Xoutput, Xpattern, cp_y Xpattern a Xhold b n, XactivationLine, Xresult)) : wpX_copyChars__pattern_hold post (Xquiet, Xfuel, XscriptSize, XinputSize, Xcursor, XitemCount, XtablePresent, XcommandCount, XoutputSize, XpatternSize, XholdSize, XlineNumber, XstepCount, XnextLine, Xpointer, Xsubstituted, XresultSize, Xscript, Xinput, Xitems, Xverb, Xnegated, Xeverywhere, XlabelStart, XlabelSize, Xtarget, XreplacementStart, XreplacementEnd, Xreplacement, Xaddress, XstartAnchor, XendAnchor, XatomCount, XatomChar, XatomStarred, Xoutput, Xpattern, Xhold, XactivationLine, Xresult) (nI a) (nI b) (nI n) := by
  unfold wpX_copyChars__pattern_hold
  have loop : ∀ f x, n - x < f → x ≤ n → wX_copyChars__pattern_hold_3 post (nI a) (nI b) (nI n) Xquiet Xfuel XscriptSize XinputSize Xcursor XitemCount XtablePresent XcommandCount XoutputSize XpatternSize XholdSize XlineNumber XstepCount XnextLine Xpointer Xsubstituted XresultSize f (nI x) Xscript Xinput Xitems Xverb Xnegated Xeverywhere XlabelStart XlabelSize Xtarget XreplacementStart XreplacementEnd Xreplacement Xaddress XstartAnchor XendAnchor XatomCount XatomChar XatomStarred Xoutput Xpattern (cp_y Xpattern a Xhold b x) XactivationLine Xresult := by
    intro f
    induction f with
    | zero => intro x h; exact absurd h (Nat.not_lt_zero _)
    | succ f ih =>
    intro x hf hx
    refine pk_le n x (fun w => ?_) (fun w => ?_)
    · rw [show x = n by omega]; exact h
    · rw [nI_add, nI_add]
      refine ⟨vp_in_nI (by omega) (by omega), vp_in_nI (by omega) (by omega), nm_e (nm_r (nI_1 x) ?_)⟩
      rw [nI_clamp (by omega), nI_clamp (by omega), cp_s]
      exact ih (x + 1) (by omega) (by omega)
  have := loop (n + 1) 0 (by omega) (by omega)
  rw [cp_0] at this
  exact ⟨_, this⟩
theorem xm_cp_hold_pattern {a b n : Nat} {post : SX → Prop} (ha : a + n ≤ 64) (hb : b + n ≤ 64) (h : post (Xquiet, Xfuel, XscriptSize, XinputSize, Xcursor, XitemCount, XtablePresent, XcommandCount, XoutputSize, XpatternSize, XholdSize, XlineNumber, XstepCount, XnextLine, Xpointer, Xsubstituted, XresultSize, Xscript, Xinput, Xitems, Xverb, Xnegated, Xeverywhere, XlabelStart, XlabelSize, Xtarget, XreplacementStart, XreplacementEnd, Xreplacement, Xaddress, XstartAnchor, XendAnchor, XatomCount, XatomChar, XatomStarred, Xoutput, cp_y Xhold a Xpattern b n, Xhold, XactivationLine, Xresult)) : wpX_copyChars__hold_pattern post (Xquiet, Xfuel, XscriptSize, XinputSize, Xcursor, XitemCount, XtablePresent, XcommandCount, XoutputSize, XpatternSize, XholdSize, XlineNumber, XstepCount, XnextLine, Xpointer, Xsubstituted, XresultSize, Xscript, Xinput, Xitems, Xverb, Xnegated, Xeverywhere, XlabelStart, XlabelSize, Xtarget, XreplacementStart, XreplacementEnd, Xreplacement, Xaddress, XstartAnchor, XendAnchor, XatomCount, XatomChar, XatomStarred, Xoutput, Xpattern, Xhold, XactivationLine, Xresult) (nI a) (nI b) (nI n) := by
  unfold wpX_copyChars__hold_pattern
  have loop : ∀ f x, n - x < f → x ≤ n → wX_copyChars__hold_pattern_3 post (nI a) (nI b) (nI n) Xquiet Xfuel XscriptSize XinputSize Xcursor XitemCount XtablePresent XcommandCount XoutputSize XpatternSize XholdSize XlineNumber XstepCount XnextLine Xpointer Xsubstituted XresultSize f (nI x) Xscript Xinput Xitems Xverb Xnegated Xeverywhere XlabelStart XlabelSize Xtarget XreplacementStart XreplacementEnd Xreplacement Xaddress XstartAnchor XendAnchor XatomCount XatomChar XatomStarred Xoutput (cp_y Xhold a Xpattern b x) Xhold XactivationLine Xresult := by
    intro f
    induction f with
    | zero => intro x h; exact absurd h (Nat.not_lt_zero _)
    | succ f ih =>
    intro x hf hx
    refine pk_le n x (fun w => ?_) (fun w => ?_)
    · rw [show x = n by omega]; exact h
    · rw [nI_add, nI_add]
      refine ⟨vp_in_nI (by omega) (by omega), vp_in_nI (by omega) (by omega), nm_e (nm_r (nI_1 x) ?_)⟩
      rw [nI_clamp (by omega), nI_clamp (by omega), cp_s]
      exact ih (x + 1) (by omega) (by omega)
  have := loop (n + 1) 0 (by omega) (by omega)
  rw [cp_0] at this
  exact ⟨_, this⟩
theorem xm_print {o n : Nat} {post : Int32 → SX → Prop} (ho : o ≤ 256) (hn : n ≤ 64)
    (hg : ¬ 256 < o + n + 1 → post (-1) (Xquiet, Xfuel, XscriptSize, XinputSize, Xcursor, XitemCount, XtablePresent, XcommandCount, nI (o + n + 1), nI n, XholdSize, XlineNumber, XstepCount, XnextLine, Xpointer, Xsubstituted, XresultSize, Xscript, Xinput, Xitems, Xverb, Xnegated, Xeverywhere, XlabelStart, XlabelSize, Xtarget, XreplacementStart, XreplacementEnd, Xreplacement, Xaddress, XstartAnchor, XendAnchor, XatomCount, XatomChar, XatomStarred, upd (cp_y Xpattern 0 Xoutput o n) (o + n) 10, Xpattern, Xhold, XactivationLine, Xresult)) (hb : 256 < o + n + 1 → post 3 (Xquiet, Xfuel, XscriptSize, XinputSize, Xcursor, XitemCount, XtablePresent, XcommandCount, nI o, nI n, XholdSize, XlineNumber, XstepCount, XnextLine, Xpointer, Xsubstituted, XresultSize, Xscript, Xinput, Xitems, Xverb, Xnegated, Xeverywhere, XlabelStart, XlabelSize, Xtarget, XreplacementStart, XreplacementEnd, Xreplacement, Xaddress, XstartAnchor, XendAnchor, XatomCount, XatomChar, XatomStarred, Xoutput, Xpattern, Xhold, XactivationLine, Xresult)) : wpX_print post (Xquiet, Xfuel, XscriptSize, XinputSize, Xcursor, XitemCount, XtablePresent, XcommandCount, nI o, nI n, XholdSize, XlineNumber, XstepCount, XnextLine, Xpointer, Xsubstituted, XresultSize, Xscript, Xinput, Xitems, Xverb, Xnegated, Xeverywhere, XlabelStart, XlabelSize, Xtarget, XreplacementStart, XreplacementEnd, Xreplacement, Xaddress, XstartAnchor, XendAnchor, XatomCount, XatomChar, XatomStarred, Xoutput, Xpattern, Xhold, XactivationLine, Xresult) := by
  unfold wpX_print
  refine pk_le (o + n + 1) 256 (fun w => ?_) (fun w => hb w) (hx := by rw [nI_add, nI_1])
  refine xm_cp_pattern_output (a := 0) (by omega) (by omega) (nm_r (nI_add o n) ⟨vp_in_nI (by omega) (by omega), nm_e (nm_r (nI_1 _) ?_)⟩)
  rw [nI_clamp (by omega)]
  exact hg (by omega)
theorem xm_allRead {I q : Nat} {post : Int32 → Prop} (hI : I ≤ 128) (hq : q ≤ I + 1) (h : post (b2_i (decide (I ≤ q)))) : wpX_allLinesRead post (Xquiet, Xfuel, XscriptSize, nI I, Xcursor, XitemCount, XtablePresent, XcommandCount, XoutputSize, XpatternSize, XholdSize, XlineNumber, XstepCount, nI q, Xpointer, Xsubstituted, XresultSize, Xscript, Xinput, Xitems, Xverb, Xnegated, Xeverywhere, XlabelStart, XlabelSize, Xtarget, XreplacementStart, XreplacementEnd, Xreplacement, Xaddress, XstartAnchor, XendAnchor, XatomCount, XatomChar, XatomStarred, Xoutput, Xpattern, Xhold, XactivationLine, Xresult) := by
  unfold wpX_allLinesRead
  refine pk_lt q I (fun w => ?_) (fun w => ?_)
  · rw [decide_eq_false (by omega)] at h; exact h
  · rw [decide_eq_true w] at h; exact h
theorem xm_readLine {I q b m : Nat} {post : Int32 → SX → Prop} (hI : I ≤ 128) (hq : q ≤ I) (hb64 : b ≤ 65) (hm : m ≤ 128)
    (hg : ¬ 64 < b + (ln_e Xinput I q - q) → post (-1) (Xquiet, Xfuel, XscriptSize, nI I, Xcursor, XitemCount, XtablePresent, XcommandCount, XoutputSize, nI (b + (ln_e Xinput I q - q)), XholdSize, nI (m + 1), XstepCount, nI (ln_e Xinput I q + 1), Xpointer, Xsubstituted, XresultSize, Xscript, Xinput, Xitems, Xverb, Xnegated, Xeverywhere, XlabelStart, XlabelSize, Xtarget, XreplacementStart, XreplacementEnd, Xreplacement, Xaddress, XstartAnchor, XendAnchor, XatomCount, XatomChar, XatomStarred, Xoutput, cp_y Xinput q Xpattern b (ln_e Xinput I q - q), Xhold, XactivationLine, Xresult))
    (hb : 64 < b + (ln_e Xinput I q - q) → post 3 (Xquiet, Xfuel, XscriptSize, nI I, Xcursor, XitemCount, XtablePresent, XcommandCount, XoutputSize, XpatternSize, XholdSize, nI m, XstepCount, nI q, Xpointer, Xsubstituted, XresultSize, Xscript, Xinput, Xitems, Xverb, Xnegated, Xeverywhere, XlabelStart, XlabelSize, Xtarget, XreplacementStart, XreplacementEnd, Xreplacement, Xaddress, XstartAnchor, XendAnchor, XatomCount, XatomChar, XatomStarred, Xoutput, Xpattern, Xhold, XactivationLine, Xresult)) :
    wpX_readLine post (Xquiet, Xfuel, XscriptSize, nI I, Xcursor, XitemCount, XtablePresent, XcommandCount, XoutputSize, XpatternSize, XholdSize, nI m, XstepCount, nI q, Xpointer, Xsubstituted, XresultSize, Xscript, Xinput, Xitems, Xverb, Xnegated, Xeverywhere, XlabelStart, XlabelSize, Xtarget, XreplacementStart, XreplacementEnd, Xreplacement, Xaddress, XstartAnchor, XendAnchor, XatomCount, XatomChar, XatomStarred, Xoutput, Xpattern, Xhold, XactivationLine, Xresult) (nI b) := by
  have he := sc_facts (P := pb_n Xinput) (L := I) (q := q) hq
  have he1 : q ≤ ln_e Xinput I q := he.1
  have he2 : ln_e Xinput I q ≤ I := he.2.1
  unfold wpX_readLine
  refine ⟨I - q + 1, ?_⟩
  refine sc_loop (fun f x => wX_readLine_5 post (nI b) Xquiet Xfuel XscriptSize (nI I) Xcursor XitemCount XtablePresent XcommandCount XoutputSize XpatternSize XholdSize (nI m) XstepCount (nI q) Xpointer Xsubstituted XresultSize Xscript Xinput Xitems Xverb Xnegated Xeverywhere XlabelStart XlabelSize Xtarget XreplacementStart XreplacementEnd Xreplacement Xaddress XstartAnchor XendAnchor XatomCount XatomChar XatomStarred Xoutput Xpattern Xhold XactivationLine Xresult f (nI x)) (pb_n Xinput) I (fun x => wX_readLine_30 post (nI b) (nI x) Xquiet Xfuel XscriptSize (nI I) Xcursor XitemCount XtablePresent XcommandCount XoutputSize XpatternSize XholdSize (nI m) XstepCount (nI q) Xpointer Xsubstituted XresultSize Xscript Xinput Xitems Xverb Xnegated Xeverywhere XlabelStart XlabelSize Xtarget XreplacementStart XreplacementEnd Xreplacement Xaddress XstartAnchor XendAnchor XatomCount XatomChar XatomStarred Xoutput Xpattern Xhold XactivationLine Xresult) ?_ ?_ (I - q + 1) q hq (by omega) ?_
  · intro f x hx hp hW
    refine br_f (nI_ge hx (by omega)) ⟨pk_in x 128 (by omega), ?_⟩
    rw [nI_clamp (by omega)]
    exact br_f (of_decide_eq_true hp) (nm_r (nI_1 x) hW)
  · intro f x hx hp hR
    refine pk_le I x (fun w => hR) (fun w => ⟨pk_in x 128 (by omega), ?_⟩)
    rw [nI_clamp (by omega)]
    exact br_t (Classical.not_not.mp (of_decide_eq_false (hp w))) hR
  · refine nm_r (show nI (ln_e Xinput I q) - nI q = nI (ln_e Xinput I q - q) from pk_sub he1) ?_
    rw [nI_add]
    refine pk_le (b + (ln_e Xinput I q - q)) 64 (fun w => ?_) (fun w => hb w)
    refine xm_cp_input_pattern (by omega) (by omega) (nm_e (nm_r (nI_1 _) (nm_r (nI_1 m) ?_)))
    exact hg (by omega)
theorem xm_holds {L I j kd n m q : Nat} {v : Int32} {Mout Mhold Mac : Nat → Int32} {Mo Mh Mst : Nat} {Mt : Int32} {post : Int32 → Prop} (hL : L ≤ 128) (hI : I ≤ 128) (hj : j < 48) (hn : n ≤ 64) (hm : m ≤ 128) (hq : q ≤ I + 1) (hA : tb_A Xscript L Xaddress XstartAnchor XendAnchor XatomCount XatomChar XatomStarred j kd v)
    (h0 : kd = 0 → post 1) (h : ¬ kd = 0 → post (b2_i (rn_H Xscript L I kd v (Mout, Mo, Xpattern, n, Mhold, Mh, m, q, Mst, Mt, Mac)))) :
    wpX_addressHolds post (Xquiet, Xfuel, XscriptSize, nI I, Xcursor, XitemCount, XtablePresent, XcommandCount, XoutputSize, nI n, XholdSize, nI m, XstepCount, nI q, Xpointer, Xsubstituted, XresultSize, Xscript, Xinput, Xitems, Xverb, Xnegated, Xeverywhere, XlabelStart, XlabelSize, Xtarget, XreplacementStart, XreplacementEnd, Xreplacement, Xaddress, XstartAnchor, XendAnchor, XatomCount, XatomChar, XatomStarred, Xoutput, Xpattern, Xhold, XactivationLine, Xresult) (nI j) := by
  have vj : vp_in (nI j) 48 := pk_in j 48 hj
  unfold wpX_addressHolds
  refine ⟨vj, ?_⟩
  rw [nI_clamp (by omega)]
  refine nm_e ?_
  unfold rn_H at h
  dsimp only at h
  rcases hA with ⟨k0, a⟩ | ⟨k1, a, p, p1, p2, pv⟩ | ⟨k2, a⟩ | ⟨k3, a, p, g, pL, pv, hx, hR⟩
  · rw [a]
    exact br_f (by decide) (br_f (by decide) (br_f (by decide) (br_f (by decide) (br_t rfl (h0 k0)))))
  · rw [a, pv]
    have h := h (by omega)
    rw [if_pos k1, pv] at h
    refine br_f (fun y => absurd (Int32.lt_trans y (by decide : (-2 : Int32) < 0)) (nI_pos (by omega))) (br_t (nI_lt (a := 0) (by omega) (by omega)) ⟨vj, ?_⟩)
    refine br_c (fun y => ?_) (fun y => ?_)
    · rw [decide_eq_true y] at h; exact h
    · rw [decide_eq_false y] at h; exact h
  · rw [a]
    have h := h (by omega)
    rw [if_neg (by omega), if_pos k2] at h
    refine br_f (by decide) (br_f (by decide) (br_f (by decide) (br_t rfl ?_)))
    exact xm_allRead hI hq ⟨ba_nb (b2_01 _), h⟩
  · rw [a]
    have h := h (by omega)
    rw [if_neg (by omega), if_neg (by omega), pv, nI_clamp (by omega), hx] at h
    dsimp only at h
    have f12 := rg_x_12 hx
    refine br_f (by decide) (br_f (by decide) (br_t rfl ?_))
    refine xm_findMatch (p := 0) hj hn (by omega) hR f12.1 f12.2.2.1 f12.2.2.2 ?_
    cases hm1 : mt_1 Xpattern n g.2.2.2.2.1 g.2.2.2.2.2 g.2.2.2.1 g.2.1 g.2.2.1 0 with
    | none => rw [hm1] at h; exact br_t rfl h
    | some r =>
      rw [hm1] at h
      have hr := mt_1_f hm1
      exact br_f (fun e => absurd (nI_pos (n := r.1) (by omega)) (by rw [show nI r.1 = -1 from e]; exact fun q => q (by decide))) h
theorem xm_range {L I k n m q : Nat} {d : cm_T} {Mout Mhold : Nat → Int32} {Mo Mh Mst : Nat} {Mt : Int32} {post : Int32 → SX → Prop} (hL : L ≤ 128) (hI : I ≤ 128) (hk : k < 16) (hn : n ≤ 64) (hm1 : 1 ≤ m) (hm : m ≤ 128) (hq : q ≤ I + 1) (hok : cm_ok Xscript L d) (h2 : d.1.1 = 2) (A1 : tb_A Xscript L Xaddress XstartAnchor XendAnchor XatomCount XatomChar XatomStarred (k * 3) d.1.2.1.1 d.1.2.1.2) (A2 : tb_A Xscript L Xaddress XstartAnchor XendAnchor XatomCount XatomChar XatomStarred (k * 3 + 1) d.1.2.2.1.1 d.1.2.2.1.2)
    (h : ∀ b ac, rn_sel Xscript L I d k (Mout, Mo, Xpattern, n, Mhold, Mh, m, q, Mst, Mt, XactivationLine) = ((b != decide (d.1.2.2.2.1 = 1)), ac) → post (b2_i b) (Xquiet, Xfuel, XscriptSize, nI I, Xcursor, XitemCount, XtablePresent, XcommandCount, XoutputSize, nI n, XholdSize, nI m, XstepCount, nI q, Xpointer, Xsubstituted, XresultSize, Xscript, Xinput, Xitems, Xverb, Xnegated, Xeverywhere, XlabelStart, XlabelSize, Xtarget, XreplacementStart, XreplacementEnd, Xreplacement, Xaddress, XstartAnchor, XendAnchor, XatomCount, XatomChar, XatomStarred, Xoutput, Xpattern, Xhold, ac, Xresult)) :
    wpX_rangeSelects post (Xquiet, Xfuel, XscriptSize, nI I, Xcursor, XitemCount, XtablePresent, XcommandCount, XoutputSize, nI n, XholdSize, nI m, XstepCount, nI q, Xpointer, Xsubstituted, XresultSize, Xscript, Xinput, Xitems, Xverb, Xnegated, Xeverywhere, XlabelStart, XlabelSize, Xtarget, XreplacementStart, XreplacementEnd, Xreplacement, Xaddress, XstartAnchor, XendAnchor, XatomCount, XatomChar, XatomStarred, Xoutput, Xpattern, Xhold, XactivationLine, Xresult) (nI k) := by
  obtain ⟨o1, o2, o3, o4, o5, o6, o7⟩ := hok
  obtain ⟨q1, q2, q3⟩ := o3 (by omega)
  obtain ⟨p1, p2, p3⟩ := o4 h2
  have vk : vp_in (nI k) 16 := pk_in k 16 hk
  have ck : (nI k).toNatClampNeg = k := nI_clamp (by omega)
  unfold rn_sel at h
  dsimp only at h
  rw [if_neg (by omega), if_neg (by omega)] at h
  have h35 : ∀ z0 : Int32, (z0 = 0 ∧ ¬ (d.1.2.2.1.1 = 1 ∧ d.1.2.2.1.2 ≤ nI m)) ∨ (z0 = 1 ∧ (d.1.2.2.1.1 = 1 ∧ d.1.2.2.1.2 ≤ nI m)) → wX_rangeSelects_35 post (nI k) (nI (k * 3)) (nI (k * 3 + 1)) z0 Xquiet Xfuel XscriptSize (nI I) Xcursor XitemCount XtablePresent XcommandCount XoutputSize (nI n) XholdSize (nI m) XstepCount (nI q) Xpointer Xsubstituted XresultSize Xscript Xinput Xitems Xverb Xnegated Xeverywhere XlabelStart XlabelSize Xtarget XreplacementStart XreplacementEnd Xreplacement Xaddress XstartAnchor XendAnchor XatomCount XatomChar XatomStarred Xoutput Xpattern Xhold XactivationLine Xresult := by
    intro z0 hz
    refine ⟨vk, ?_⟩
    rw [ck]
    refine br_c (fun a0 => ?_) (fun a0 => ⟨vk, ?_⟩)
    · rw [if_pos a0] at h
      refine xm_holds (Mout := Mout) (Mo := Mo) (Mhold := Mhold) (Mh := Mh) (Mst := Mst) (Mt := Mt) (Mac := XactivationLine) hL hI (by omega) hn hm hq A1 (fun y => absurd y q2) (fun _ => ?_)
      cases hH : rn_H Xscript L I d.1.2.1.1 d.1.2.1.2 (Mout, Mo, Xpattern, n, Mhold, Mh, m, q, Mst, Mt, XactivationLine) with
      | false =>
        rw [hH, if_neg (by decide)] at h
        exact br_t rfl ⟨rfl, h false _ rfl⟩
      | true =>
        rw [hH, if_pos rfl] at h
        refine br_f (by decide) ?_
        rcases hz with ⟨z, w⟩ | ⟨z, w⟩
        · rw [if_neg w] at h
          exact br_t z ⟨vk, nm_e ⟨rfl, h true _ rfl⟩⟩
        · rw [if_pos w] at h
          exact br_f (by rw [z]; decide) ⟨rfl, h true _ rfl⟩
    · rw [if_neg a0] at h
      refine br_c (fun y => ?_) (fun y => ?_)
      · rw [if_neg (fun z => absurd z.1 (Int32.not_lt.mpr y))] at h
        exact h true _ rfl
      · have lt : XactivationLine k < nI m := Int32.not_le.mp y
        rcases hz with ⟨z, w⟩ | ⟨z, w⟩
        · refine br_t z ?_
          refine xm_holds (Mout := Mout) (Mo := Mo) (Mhold := Mhold) (Mh := Mh) (Mst := Mst) (Mt := Mt) (Mac := XactivationLine) hL hI (by omega) hn hm hq A2 (fun y => absurd y p2) (fun _ => ?_)
          cases hH : rn_H Xscript L I d.1.2.2.1.1 d.1.2.2.1.2 (Mout, Mo, Xpattern, n, Mhold, Mh, m, q, Mst, Mt, XactivationLine) with
          | false =>
            rw [if_neg (fun y => by
              rcases y.2 with u | u
              · exact w u
              · rw [hH] at u; exact absurd u.2 (by decide))] at h
            exact br_t rfl (h true _ rfl)
          | true =>
            refine br_f (by decide) ⟨vk, nm_e ?_⟩
            by_cases k1 : d.1.2.2.1.1 = 1
            · -- a number that holds has been passed
              exfalso
              unfold rn_H at hH
              dsimp only at hH
              rw [if_pos k1] at hH
              exact w ⟨k1, by rw [of_decide_eq_true hH]; exact Int32.le_refl _⟩
            · rw [if_pos ⟨lt, Or.inr ⟨k1, hH⟩⟩] at h
              exact h true _ rfl
        · rw [if_pos ⟨lt, Or.inl w⟩] at h
          refine br_f (by rw [z]; decide) ⟨vk, nm_e ?_⟩
          exact h true _ rfl
  unfold wpX_rangeSelects
  refine nm_r (pk_mul k 3) (nm_r (nI_1 (k * 3)) ⟨vp_in_nI (by omega) (by omega), ?_⟩)
  rw [nI_clamp (by omega)]
  rcases A2 with ⟨y, _⟩ | ⟨k1, a, p, pp1, pp2, pv⟩ | ⟨k2, a⟩ | ⟨k3, a, _⟩
  · exact absurd y p2
  · rw [a, pv]
    refine br_f (nI_nle (by omega) (by omega)) ⟨vp_in_nI (by omega) (by omega), ?_⟩
    refine br_c (fun y => h35 0 (Or.inl ⟨rfl, fun z => ?_⟩)) (fun y => h35 1 (Or.inr ⟨rfl, k1, ?_⟩))
    · rw [pv] at z; exact absurd y (Int32.not_lt.mpr z.2)
    · rw [pv]; exact Int32.not_lt.mp y
  · rw [a]
    exact br_t (by decide) (h35 0 (Or.inl ⟨rfl, fun z => by omega⟩))
  · rw [a]
    exact br_t (by decide) (h35 0 (Or.inl ⟨rfl, fun z => by omega⟩))
end XN_1
