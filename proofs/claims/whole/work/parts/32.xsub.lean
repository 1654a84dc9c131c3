/-! X: substitution -/
section XS_1
variable {Xquiet Xfuel XscriptSize XinputSize Xcursor XitemCount XtablePresent XcommandCount XoutputSize XpatternSize XholdSize XlineNumber XstepCount XnextLine Xpointer Xsubstituted XresultSize : Int32} {Xscript Xinput Xitems Xverb Xnegated Xeverywhere XlabelStart XlabelSize Xtarget XreplacementStart XreplacementEnd Xreplacement Xaddress XstartAnchor XendAnchor XatomCount XatomChar XatomStarred Xoutput Xpattern Xhold XactivationLine Xresult : Nat → Int32}
theorem xm_put {R : List Int32} {c : Int32} {post : SX → Prop} (hR : R.length < 2 ^ 30) (hr : rl_h Xresult R) (h : ∀ res, rl_h res (R ++ [c]) → post (Xquiet, Xfuel, XscriptSize, XinputSize, Xcursor, XitemCount, XtablePresent, XcommandCount, XoutputSize, XpatternSize, XholdSize, XlineNumber, XstepCount, XnextLine, Xpointer, Xsubstituted, nI (R ++ [c]).length, Xscript, Xinput, Xitems, Xverb, Xnegated, Xeverywhere, XlabelStart, XlabelSize, Xtarget, XreplacementStart, XreplacementEnd, Xreplacement, Xaddress, XstartAnchor, XendAnchor, XatomCount, XatomChar, XatomStarred, Xoutput, Xpattern, Xhold, XactivationLine, res)) : wpX_appendToResult post (Xquiet, Xfuel, XscriptSize, XinputSize, Xcursor, XitemCount, XtablePresent, XcommandCount, XoutputSize, XpatternSize, XholdSize, XlineNumber, XstepCount, XnextLine, Xpointer, Xsubstituted, nI R.length, Xscript, Xinput, Xitems, Xverb, Xnegated, Xeverywhere, XlabelStart, XlabelSize, Xtarget, XreplacementStart, XreplacementEnd, Xreplacement, Xaddress, XstartAnchor, XendAnchor, XatomCount, XatomChar, XatomStarred, Xoutput, Xpattern, Xhold, XactivationLine, Xresult) c := by
  have e : (R ++ [c]).length = R.length + 1 := by simp
  rw [e] at h
  unfold wpX_appendToResult
  refine pk_le 64 R.length (fun w => nm_r (nI_1 _) (h _ (rl_full hr (by omega)))) (fun w => ⟨pk_in R.length 64 w, nm_e (nm_r (nI_1 _) ?_)⟩)
  rw [nI_clamp (by omega)]
  exact h _ (rl_put hr w)
theorem xm_part {R : List Int32} {a b : Nat} {post : SX → Prop} (hb : b ≤ 64) (ha : a ≤ 65) (hR : R.length < 2 ^ 29) (hr : rl_h Xresult R) (h : ∀ res, rl_h res (R ++ sl_x Xpattern a (b - a)) → post (Xquiet, Xfuel, XscriptSize, XinputSize, Xcursor, XitemCount, XtablePresent, XcommandCount, XoutputSize, XpatternSize, XholdSize, XlineNumber, XstepCount, XnextLine, Xpointer, Xsubstituted, nI (R ++ sl_x Xpattern a (b - a)).length, Xscript, Xinput, Xitems, Xverb, Xnegated, Xeverywhere, XlabelStart, XlabelSize, Xtarget, XreplacementStart, XreplacementEnd, Xreplacement, Xaddress, XstartAnchor, XendAnchor, XatomCount, XatomChar, XatomStarred, Xoutput, Xpattern, Xhold, XactivationLine, res)) : wpX_appendPatternPart post (Xquiet, Xfuel, XscriptSize, XinputSize, Xcursor, XitemCount, XtablePresent, XcommandCount, XoutputSize, XpatternSize, XholdSize, XlineNumber, XstepCount, XnextLine, Xpointer, Xsubstituted, nI R.length, Xscript, Xinput, Xitems, Xverb, Xnegated, Xeverywhere, XlabelStart, XlabelSize, Xtarget, XreplacementStart, XreplacementEnd, Xreplacement, Xaddress, XstartAnchor, XendAnchor, XatomCount, XatomChar, XatomStarred, Xoutput, Xpattern, Xhold, XactivationLine, Xresult) (nI a) (nI b) := by
  unfold wpX_appendPatternPart
  have loop : ∀ f t res, b - a - t < f → t ≤ b - a → rl_h res (R ++ sl_x Xpattern a t) → wX_appendPatternPart_2 post (nI b) f (nI (a + t)) Xquiet Xfuel XscriptSize XinputSize Xcursor XitemCount XtablePresent XcommandCount XoutputSize XpatternSize XholdSize XlineNumber XstepCount XnextLine Xpointer Xsubstituted (nI (R ++ sl_x Xpattern a t).length) Xscript Xinput Xitems Xverb Xnegated Xeverywhere XlabelStart XlabelSize Xtarget XreplacementStart XreplacementEnd Xreplacement Xaddress XstartAnchor XendAnchor XatomCount XatomChar XatomStarred Xoutput Xpattern Xhold XactivationLine res := by
    intro f
    induction f with
    | zero => intro t res h; exact absurd h (Nat.not_lt_zero _)
    | succ f ih =>
    intro t res hf ht hh
    refine pk_le b (a + t) (fun w => ?_) (fun w => ⟨vp_in_nI (by omega) (by omega), ?_⟩)
    · have e : t = b - a := by omega
      rw [e] at hh ⊢
      exact h res hh
    · rw [nI_clamp (by omega)]
      refine xm_put (by rw [List.length_append, sl_len]; omega) hh (fun res' hh' => nm_r (nI_1 _) ?_)
      have e : R ++ sl_x Xpattern a t ++ [Xpattern (a + t)] = R ++ sl_x Xpattern a (t + 1) := by rw [List.append_assoc]; rfl
      rw [e] at hh' ⊢
      exact ih (t + 1) res' (by omega) (by omega) hh'
  have e : R ++ sl_x Xpattern a 0 = R := List.append_nil R
  have := loop (b - a + 1) 0 Xresult (by omega) (by omega) (by rw [e]; exact hr)
  rw [e] at this
  exact ⟨_, this⟩
theorem xm_33 {R : List Int32} {i j : Nat} {x1 x4 : Int32} {F : Nat} {post : SX → Prop} (hj : j ≤ 64) (hi : i ≤ 64) (hR : R.length < 2 ^ 29) (hr : rl_h Xresult R) (h : ∀ res, rl_h res (R ++ sl_x Xpattern i (j - i)) → wX_appendReplacement_8 post x1 (nI i) (nI j) F (x4 + 1) Xquiet Xfuel XscriptSize XinputSize Xcursor XitemCount XtablePresent XcommandCount XoutputSize XpatternSize XholdSize XlineNumber XstepCount XnextLine Xpointer Xsubstituted (nI (R ++ sl_x Xpattern i (j - i)).length) Xscript Xinput Xitems Xverb Xnegated Xeverywhere XlabelStart XlabelSize Xtarget XreplacementStart XreplacementEnd Xreplacement Xaddress XstartAnchor XendAnchor XatomCount XatomChar XatomStarred Xoutput Xpattern Xhold XactivationLine res) : ∃ f, wX_appendReplacement_33 post (wX_appendReplacement_8 post x1 (nI i) (nI j) F) x1 (nI i) (nI j) x4 f (nI i) Xquiet Xfuel XscriptSize XinputSize Xcursor XitemCount XtablePresent XcommandCount XoutputSize XpatternSize XholdSize XlineNumber XstepCount XnextLine Xpointer Xsubstituted (nI R.length) Xscript Xinput Xitems Xverb Xnegated Xeverywhere XlabelStart XlabelSize Xtarget XreplacementStart XreplacementEnd Xreplacement Xaddress XstartAnchor XendAnchor XatomCount XatomChar XatomStarred Xoutput Xpattern Xhold XactivationLine Xresult := by
  have loop : ∀ f t res, j - i - t < f → t ≤ j - i → rl_h res (R ++ sl_x Xpattern i t) → wX_appendReplacement_33 post (wX_appendReplacement_8 post x1 (nI i) (nI j) F) x1 (nI i) (nI j) x4 f (nI (i + t)) Xquiet Xfuel XscriptSize XinputSize Xcursor XitemCount XtablePresent XcommandCount XoutputSize XpatternSize XholdSize XlineNumber XstepCount XnextLine Xpointer Xsubstituted (nI (R ++ sl_x Xpattern i t).length) Xscript Xinput Xitems Xverb Xnegated Xeverywhere XlabelStart XlabelSize Xtarget XreplacementStart XreplacementEnd Xreplacement Xaddress XstartAnchor XendAnchor XatomCount XatomChar XatomStarred Xoutput Xpattern Xhold XactivationLine res := by
    intro f
    induction f with
    | zero => intro t res h; exact absurd h (Nat.not_lt_zero _)
    | succ f ih =>
    intro t res hf ht hh
    refine pk_le j (i + t) (fun w => nm_e ?_) (fun w => ⟨vp_in_nI (by omega) (by omega), ?_⟩)
    · have e : t = j - i := by omega
      rw [e] at hh ⊢
      exact h res hh
    · rw [nI_clamp (by omega)]
      refine xm_put (by rw [List.length_append, sl_len]; omega) hh (fun res' hh' => nm_r (nI_1 _) ?_)
      have e : R ++ sl_x Xpattern i t ++ [Xpattern (i + t)] = R ++ sl_x Xpattern i (t + 1) := by rw [List.append_assoc]; rfl
      rw [e] at hh' ⊢
      exact ih (t + 1) res' (by omega) (by omega) hh'
  have e : R ++ sl_x Xpattern i 0 = R := List.append_nil R
  have := loop (j - i + 1) 0 Xresult (by omega) (by omega) (by rw [e]; exact hr)
  rw [e] at this
  exact ⟨_, this⟩
theorem xm_rep {k rp rn i j n : Nat} {R : List Int32} {post : SX → Prop} (hk : k < 16) (hn : n ≤ 64) (hij : i ≤ j) (hj : j ≤ n) (hrn : rp + rn ≤ 128) (hR : R.length < 2 ^ 28) (hr : rl_h Xresult R) (e1 : XreplacementStart k = nI rp) (e2 : XreplacementEnd k = nI (rp + rn)) (e3 : ∀ t, t < rn → Xreplacement (rp + t) = tb_c Xscript (tx_p Xscript rp t))
    (h : ∀ res, rl_h res (R ++ sl_r Xscript Xpattern rp i j rn) → post (Xquiet, Xfuel, XscriptSize, XinputSize, Xcursor, XitemCount, XtablePresent, XcommandCount, XoutputSize, XpatternSize, XholdSize, XlineNumber, XstepCount, XnextLine, Xpointer, Xsubstituted, nI (R ++ sl_r Xscript Xpattern rp i j rn).length, Xscript, Xinput, Xitems, Xverb, Xnegated, Xeverywhere, XlabelStart, XlabelSize, Xtarget, XreplacementStart, XreplacementEnd, Xreplacement, Xaddress, XstartAnchor, XendAnchor, XatomCount, XatomChar, XatomStarred, Xoutput, Xpattern, Xhold, XactivationLine, res)) : wpX_appendReplacement post (Xquiet, Xfuel, XscriptSize, XinputSize, Xcursor, XitemCount, XtablePresent, XcommandCount, XoutputSize, XpatternSize, XholdSize, XlineNumber, XstepCount, XnextLine, Xpointer, Xsubstituted, nI R.length, Xscript, Xinput, Xitems, Xverb, Xnegated, Xeverywhere, XlabelStart, XlabelSize, Xtarget, XreplacementStart, XreplacementEnd, Xreplacement, Xaddress, XstartAnchor, XendAnchor, XatomCount, XatomChar, XatomStarred, Xoutput, Xpattern, Xhold, XactivationLine, Xresult) (nI k) (nI i) (nI j) := by
  have vk : vp_in (nI k) 16 := pk_in k 16 hk
  have ck : (nI k).toNatClampNeg = k := nI_clamp (by omega)
  unfold wpX_appendReplacement
  refine ⟨vk, ?_⟩
  rw [ck, e1]
  refine nm_e ⟨rn + 1, ?_⟩
  have loop : ∀ f t res, rn - t < f → t ≤ rn → rl_h res (R ++ sl_r Xscript Xpattern rp i j t) → wX_appendReplacement_8 post (nI k) (nI i) (nI j) f (nI (rp + t)) Xquiet Xfuel XscriptSize XinputSize Xcursor XitemCount XtablePresent XcommandCount XoutputSize XpatternSize XholdSize XlineNumber XstepCount XnextLine Xpointer Xsubstituted (nI (R ++ sl_r Xscript Xpattern rp i j t).length) Xscript Xinput Xitems Xverb Xnegated Xeverywhere XlabelStart XlabelSize Xtarget XreplacementStart XreplacementEnd Xreplacement Xaddress XstartAnchor XendAnchor XatomCount XatomChar XatomStarred Xoutput Xpattern Xhold XactivationLine res := by
    intro f
    induction f with
    | zero => intro t res h; exact absurd h (Nat.not_lt_zero _)
    | succ f ih =>
    intro t res hf ht hh
    have len : (R ++ sl_r Xscript Xpattern rp i j t).length < 2 ^ 29 := by
      have a := sl_rlen Xscript Xpattern rp i j t
      have b : t * (j - i + 1) ≤ 128 * 65 := Nat.mul_le_mul (by omega) (by omega)
      rw [List.length_append]
      omega
    refine ⟨vk, ?_⟩
    rw [ck, e2]
    refine pk_le (rp + rn) (rp + t) (fun w => ?_) (fun w => ⟨vp_in_nI (by omega) (by omega), ?_⟩)
    · have e : t = rn := by omega
      rw [e] at hh ⊢
      exact h res hh
    · have tl : t < rn := by omega
      rw [nI_clamp (by omega), e3 t tl]
      refine br_c (fun y => ?_) (fun y => ⟨vp_in_nI (by omega) (by omega), ?_⟩)
      · refine xm_33 (by omega) (by omega) len hh (fun res' hh' => ?_)
        have e : R ++ sl_r Xscript Xpattern rp i j t ++ sl_x Xpattern i (j - i) = R ++ sl_r Xscript Xpattern rp i j (t + 1) := by
          rw [sl_r, if_pos y, List.append_assoc]
        rw [nI_1]
        rw [e] at hh' ⊢
        exact ih (t + 1) res' (by omega) (by omega) hh'
      · refine xm_put (by omega) hh (fun res' hh' => nm_r (nI_1 _) ?_)
        have e : R ++ sl_r Xscript Xpattern rp i j t ++ [tb_c Xscript (tx_p Xscript rp t)] = R ++ sl_r Xscript Xpattern rp i j (t + 1) := by
          rw [sl_r, if_neg y, List.append_assoc]
        rw [e] at hh' ⊢
        exact ih (t + 1) res' (by omega) (by omega) hh'
  have e : R ++ sl_r Xscript Xpattern rp i j 0 = R := List.append_nil R
  have := loop (rn + 1) 0 Xresult (by omega) (by omega) (by rw [e]; exact hr)
  rw [e] at this
  exact this
theorem xm_134 {n p : Nat} {R : List Int32} {tk : Int32} {post : Int32 → SX → Prop} (hn : n ≤ 64) (hp : p ≤ n + 1) (hR : R.length < 2 ^ 28) (hr : rl_h Xresult R)
    (h0 : tk = 0 → post (-1) (Xquiet, Xfuel, XscriptSize, XinputSize, Xcursor, XitemCount, XtablePresent, XcommandCount, XoutputSize, nI n, XholdSize, XlineNumber, XstepCount, XnextLine, Xpointer, Xsubstituted, nI R.length, Xscript, Xinput, Xitems, Xverb, Xnegated, Xeverywhere, XlabelStart, XlabelSize, Xtarget, XreplacementStart, XreplacementEnd, Xreplacement, Xaddress, XstartAnchor, XendAnchor, XatomCount, XatomChar, XatomStarred, Xoutput, Xpattern, Xhold, XactivationLine, Xresult))
    (h1 : ¬ tk = 0 → 64 < (R ++ sl_x Xpattern p (n - p)).length → ∀ rl res, post 3 (Xquiet, Xfuel, XscriptSize, XinputSize, Xcursor, XitemCount, XtablePresent, XcommandCount, XoutputSize, nI n, XholdSize, XlineNumber, XstepCount, XnextLine, Xpointer, Xsubstituted, rl, Xscript, Xinput, Xitems, Xverb, Xnegated, Xeverywhere, XlabelStart, XlabelSize, Xtarget, XreplacementStart, XreplacementEnd, Xreplacement, Xaddress, XstartAnchor, XendAnchor, XatomCount, XatomChar, XatomStarred, Xoutput, Xpattern, Xhold, XactivationLine, res))
    (h2 : ¬ tk = 0 → ¬ 64 < (R ++ sl_x Xpattern p (n - p)).length → ∀ rl res, post (-1) (Xquiet, Xfuel, XscriptSize, XinputSize, Xcursor, XitemCount, XtablePresent, XcommandCount, XoutputSize, nI (R ++ sl_x Xpattern p (n - p)).length, XholdSize, XlineNumber, XstepCount, XnextLine, Xpointer, 1, rl, Xscript, Xinput, Xitems, Xverb, Xnegated, Xeverywhere, XlabelStart, XlabelSize, Xtarget, XreplacementStart, XreplacementEnd, Xreplacement, Xaddress, XstartAnchor, XendAnchor, XatomCount, XatomChar, XatomStarred, Xoutput, cp_y (sb_f (R ++ sl_x Xpattern p (n - p))) 0 Xpattern 0 (R ++ sl_x Xpattern p (n - p)).length, Xhold, XactivationLine, res)) :
    wX_substitute_134 post (nI p) tk Xquiet Xfuel XscriptSize XinputSize Xcursor XitemCount XtablePresent XcommandCount XoutputSize (nI n) XholdSize XlineNumber XstepCount XnextLine Xpointer Xsubstituted (nI R.length) Xscript Xinput Xitems Xverb Xnegated Xeverywhere XlabelStart XlabelSize Xtarget XreplacementStart XreplacementEnd Xreplacement Xaddress XstartAnchor XendAnchor XatomCount XatomChar XatomStarred Xoutput Xpattern Xhold XactivationLine Xresult := by
  refine br_c h0 (fun z => ?_)
  refine xm_part (by omega) (by omega) (by omega) hr (fun res hh => ?_)
  have len : (R ++ sl_x Xpattern p (n - p)).length < 2 ^ 30 := by rw [List.length_append, sl_len]; omega
  refine pk_le (R ++ sl_x Xpattern p (n - p)).length 64 (fun w => ?_) (fun w => h1 z w _ _)
  refine xm_cp_result_pattern (a := 0) (b := 0) (by omega) (by omega) ?_
  rw [rl_cp hh w]
  exact h2 z (by omega) _ _
theorem xm_27 {L n k rp rn : Nat} {g : Nat × Nat × Nat × Nat × (Nat → Int32) × (Nat → Int32)} {tr : Nat × List Int32 × Int32} {post : Int32 → SX → Prop} (hn : n ≤ 64) (hk : k < 16) (hR0 : tb_R XstartAnchor XendAnchor XatomCount XatomChar XatomStarred (k * 3 + 2) g) (h12 : g.2.2.2.1 ≤ 12) (hS : g.2.1 ≤ 1) (hE : g.2.2.1 ≤ 1) (hrn : rp + rn ≤ 128) (e1 : XreplacementStart k = nI rp) (e2 : XreplacementEnd k = nI (rp + rn)) (e3 : ∀ t, t < rn → Xreplacement (rp + t) = tb_c Xscript (tx_p Xscript rp t))
    (h0 : tr.2.2 = 0 → ∀ rl res, post (-1) (Xquiet, Xfuel, XscriptSize, XinputSize, Xcursor, XitemCount, XtablePresent, XcommandCount, XoutputSize, nI n, XholdSize, XlineNumber, XstepCount, XnextLine, Xpointer, Xsubstituted, rl, Xscript, Xinput, Xitems, Xverb, Xnegated, Xeverywhere, XlabelStart, XlabelSize, Xtarget, XreplacementStart, XreplacementEnd, Xreplacement, Xaddress, XstartAnchor, XendAnchor, XatomCount, XatomChar, XatomStarred, Xoutput, Xpattern, Xhold, XactivationLine, res))
    (h1 : ¬ tr.2.2 = 0 → 64 < (tr.2.1 ++ sl_x Xpattern tr.1 (n - tr.1)).length → ∀ rl res, post 3 (Xquiet, Xfuel, XscriptSize, XinputSize, Xcursor, XitemCount, XtablePresent, XcommandCount, XoutputSize, nI n, XholdSize, XlineNumber, XstepCount, XnextLine, Xpointer, Xsubstituted, rl, Xscript, Xinput, Xitems, Xverb, Xnegated, Xeverywhere, XlabelStart, XlabelSize, Xtarget, XreplacementStart, XreplacementEnd, Xreplacement, Xaddress, XstartAnchor, XendAnchor, XatomCount, XatomChar, XatomStarred, Xoutput, Xpattern, Xhold, XactivationLine, res))
    (h2 : ¬ tr.2.2 = 0 → ¬ 64 < (tr.2.1 ++ sl_x Xpattern tr.1 (n - tr.1)).length → ∀ rl res, post (-1) (Xquiet, Xfuel, XscriptSize, XinputSize, Xcursor, XitemCount, XtablePresent, XcommandCount, XoutputSize, nI (tr.2.1 ++ sl_x Xpattern tr.1 (n - tr.1)).length, XholdSize, XlineNumber, XstepCount, XnextLine, Xpointer, 1, rl, Xscript, Xinput, Xitems, Xverb, Xnegated, Xeverywhere, XlabelStart, XlabelSize, Xtarget, XreplacementStart, XreplacementEnd, Xreplacement, Xaddress, XstartAnchor, XendAnchor, XatomCount, XatomChar, XatomStarred, Xoutput, cp_y (sb_f (tr.2.1 ++ sl_x Xpattern tr.1 (n - tr.1))) 0 Xpattern 0 (tr.2.1 ++ sl_x Xpattern tr.1 (n - tr.1)).length, Xhold, XactivationLine, res)) :
    ∀ f p R tk res, p ≤ n → 65 ≤ p + f → f ≤ 65 → R.length ≤ (65 - f) * 8400 → rl_h res R → sb_x Xscript L Xpattern n g rp rn (Xeverywhere k) f p R tk = tr → wX_substitute_27 post (nI k) (nI (k * 3 + 2)) (f + 1) (nI p) tk (mt_o1 (mt_1 Xpattern n g.2.2.2.2.1 g.2.2.2.2.2 g.2.2.2.1 g.2.1 g.2.2.1 p)) (nI (65 - f)) Xquiet Xfuel XscriptSize XinputSize Xcursor XitemCount XtablePresent XcommandCount XoutputSize (nI n) XholdSize XlineNumber XstepCount XnextLine Xpointer Xsubstituted (nI R.length) Xscript Xinput Xitems Xverb Xnegated Xeverywhere XlabelStart XlabelSize Xtarget XreplacementStart XreplacementEnd Xreplacement Xaddress XstartAnchor XendAnchor XatomCount XatomChar XatomStarred Xoutput Xpattern Xhold XactivationLine res := by
  have fin : ∀ F p' R' tk' x6 res', (p', R', tk') = tr → p' ≤ n + 1 → R'.length ≤ 65 * 8400 → rl_h res' R' → wX_substitute_27 post (nI k) (nI (k * 3 + 2)) (F + 1) (nI p') tk' (-1) x6 Xquiet Xfuel XscriptSize XinputSize Xcursor XitemCount XtablePresent XcommandCount XoutputSize (nI n) XholdSize XlineNumber XstepCount XnextLine Xpointer Xsubstituted (nI R'.length) Xscript Xinput Xitems Xverb Xnegated Xeverywhere XlabelStart XlabelSize Xtarget XreplacementStart XreplacementEnd Xreplacement Xaddress XstartAnchor XendAnchor XatomCount XatomChar XatomStarred Xoutput Xpattern Xhold XactivationLine res' := by
    intro F p' R' tk' x6 res' e hp' hR' hr'
    rw [← e] at h0 h1 h2
    have : wX_substitute_134 post (nI p') tk' Xquiet Xfuel XscriptSize XinputSize Xcursor XitemCount XtablePresent XcommandCount XoutputSize (nI n) XholdSize XlineNumber XstepCount XnextLine Xpointer Xsubstituted (nI R'.length) Xscript Xinput Xitems Xverb Xnegated Xeverywhere XlabelStart XlabelSize Xtarget XreplacementStart XreplacementEnd Xreplacement Xaddress XstartAnchor XendAnchor XatomCount XatomChar XatomStarred Xoutput Xpattern Xhold XactivationLine res' := xm_134 hn hp' (by omega) hr' (fun z => h0 z _ _) h1 h2
    exact br_c (fun _ => this) (fun _ => br_t rfl this)
  have vk : vp_in (nI k) 16 := pk_in k 16 hk
  have ck : (nI k).toNatClampNeg = k := nI_clamp (by omega)
  intro f
  induction f with
  | zero => intro p R tk res hp hf; omega
  | succ f ih =>
  intro p R tk res hp hpf hf65 hR hr hsb
  have len : R.length ≤ 64 * 8400 := Nat.le_trans hR (Nat.mul_le_mul_right _ (by omega))
  rw [sb_x] at hsb
  cases hm : mt_1 Xpattern n g.2.2.2.2.1 g.2.2.2.2.2 g.2.2.2.1 g.2.1 g.2.2.1 p with
  | none =>
    rw [hm] at hsb
    exact fin (f + 1) p R tk _ _ hsb (by omega) (by omega) hr
  | some r =>
    rw [hm] at hsb
    dsimp only at hsb
    obtain ⟨q1, q2, q3, dd, q4, q5⟩ := mt_1_f hm
    refine br_f (nI_nlt (a := 64) (by omega) (by decide)) (br_f (fun e => absurd (nI_pos (n := r.1) (by omega)) (by rw [show nI r.1 = -1 from e]; exact fun q => q (by decide))) ?_)
    refine xm_longest (by omega) hn (by omega) hR0 h12 hE ?_
    rw [q4]
    show wpX_appendPatternPart _ _ (nI p) (nI r.1)
    refine xm_part (by omega) (by omega) (by omega) hr (fun res1 hr1 => ?_)
    have l1 : (R ++ sl_x Xpattern p (r.1 - p)).length < 2 ^ 28 := by rw [List.length_append, sl_len]; omega
    have er : (mt_lo r.1 (some dd)) = nI r.2 := by rw [q5]; rfl
    rw [er]
    refine xm_rep hk hn q2 q3 hrn l1 hr1 e1 e2 e3 (fun res2 hr2 => ?_)
    have h107 : ∀ p' R' res', (p' = if r.2 = r.1 then r.1 + 1 else r.2) → R' = R ++ sl_x Xpattern p (r.1 - p) ++ sl_r Xscript Xpattern rp r.1 r.2 rn ++ (if r.2 = r.1 ∧ r.1 < n then [Xpattern r.1] else []) → rl_h res' R' → wX_substitute_107 post (wX_substitute_27 post (nI k) (nI (k * 3 + 2)) (f + 1)) (nI k) (nI (k * 3 + 2)) (nI p') 1 (nI (65 - (f + 1))) Xquiet Xfuel XscriptSize XinputSize Xcursor XitemCount XtablePresent XcommandCount XoutputSize (nI n) XholdSize XlineNumber XstepCount XnextLine Xpointer Xsubstituted (nI R'.length) Xscript Xinput Xitems Xverb Xnegated Xeverywhere XlabelStart XlabelSize Xtarget XreplacementStart XreplacementEnd Xreplacement Xaddress XstartAnchor XendAnchor XatomCount XatomChar XatomStarred Xoutput Xpattern Xhold XactivationLine res' := by
      intro p' R' res' ep eR hr'
      have hp'1 : p' ≤ n + 1 := by rw [ep]; split <;> omega
      have hp'2 : p < p' := by rw [ep]; split <;> omega
      have hl : R'.length ≤ R.length + 8400 := by
        have := sb_len (s := Xscript) (T := Xpattern) (n := n) (rp := rp) (rn := rn) (p := p) (R := R) (r := r) hn (by omega) ⟨q2, q3⟩
        unfold sb_R at this
        rw [← eR] at this
        exact this
      have hl2 : R'.length ≤ (65 - f) * 8400 := by
        have : (65 - f) * 8400 = (65 - (f + 1)) * 8400 + 8400 := by
          rw [show 65 - f = (65 - (f + 1)) + 1 by omega, Nat.succ_mul]
        omega
      have last : (Xeverywhere k = 0 ∨ (r.2 = r.1 ∧ r.1 = n)) → ∀ x6, wX_substitute_27 post (nI k) (nI (k * 3 + 2)) (f + 1) (nI p') 1 (-1) x6 Xquiet Xfuel XscriptSize XinputSize Xcursor XitemCount XtablePresent XcommandCount XoutputSize (nI n) XholdSize XlineNumber XstepCount XnextLine Xpointer Xsubstituted (nI R'.length) Xscript Xinput Xitems Xverb Xnegated Xeverywhere XlabelStart XlabelSize Xtarget XreplacementStart XreplacementEnd Xreplacement Xaddress XstartAnchor XendAnchor XatomCount XatomChar XatomStarred Xoutput Xpattern Xhold XactivationLine res' := by
        intro hh x6
        rw [if_pos hh, ← ep, ← eR] at hsb
        exact fin f p' R' 1 x6 _ hsb hp'1 (by omega) hr'
      refine ⟨vk, ?_⟩
      rw [ck]
      refine br_c (fun z => nm_e (last (Or.inl z) _)) (fun z => ?_)
      refine xm_findMatch (by omega) hn hp'1 hR0 h12 hS hE ?_
      by_cases w : p' = n + 1
      · rw [w, mt_1_hi (by omega)]
        refine nm_e ?_
        have hh : r.2 = r.1 ∧ r.1 = n := by
          rw [w] at ep
          by_cases y : r.2 = r.1
          · rw [if_pos y] at ep; exact ⟨y, by omega⟩
          · rw [if_neg y] at ep; omega
        have := last (Or.inr hh) (nI (65 - (f + 1)) + 1)
        rw [w] at this
        exact this
      · have hh : ¬ (Xeverywhere k = 0 ∨ (r.2 = r.1 ∧ r.1 = n)) := fun y => by
          rcases y with y | y
          · exact z y
          · rw [if_pos y.1] at ep; omega
        rw [if_neg hh, ← ep, ← eR] at hsb
        refine nm_r (show nI (65 - (f + 1)) + 1 = nI (65 - f) from by rw [nI_1, show 65 - (f + 1) + 1 = 65 - f by omega]) ?_
        exact ih p' R' 1 _ (by omega) (by omega) (by omega) hl2 hr' hsb
    have l2 : (R ++ sl_x Xpattern p (r.1 - p) ++ sl_r Xscript Xpattern rp r.1 r.2 rn).length < 2 ^ 29 := by
      have a := sl_rlen Xscript Xpattern rp r.1 r.2 rn
      have b : rn * (r.2 - r.1 + 1) ≤ 128 * 65 := Nat.mul_le_mul (by omega) (by omega)
      rw [List.length_append]
      omega
    show (nI r.2 = nI r.1 → _) ∧ _
    refine pk_eq r.2 r.1 (fun w => pk_le n r.1 (fun w2 => ?_) (fun w2 => ?_)) (fun w => ?_)
    · refine xm_part (by omega) (by omega) l2 hr2 (fun res3 hr3 => nm_r (nI_1 r.1) ?_)
      rw [Nat.sub_self] at hr3 ⊢
      exact h107 (r.1 + 1) _ res3 (by rw [if_pos w]) (by rw [if_neg (by omega)]; rfl) hr3
    · show wX_substitute_99 _ _ _ _ _ _ _ (nI r.1 + 1) _ _ _ _ _ _ _ _ _ _ _ _ _ _ _ _ _ _ _ _ _ _ _ _ _ _ _ _ _ _ _ _ _ _ _ _ _ _ _ _ _
      rw [show nI r.1 + 1 = nI (r.1 + 1) from nI_1 r.1]
      refine xm_part (by omega) (by omega) l2 hr2 (fun res3 hr3 => nm_r (nI_1 r.1) ?_)
      rw [show r.1 + 1 - r.1 = 1 by omega] at hr3 ⊢
      exact h107 (r.1 + 1) _ res3 (by rw [if_pos w]) (by rw [if_pos ⟨w, w2⟩]; rfl) hr3
    · exact h107 r.2 _ res2 (by rw [if_neg w]) (by rw [if_neg (fun y => w y.1)]; exact (List.append_nil _).symm) hr2
end XS_1
