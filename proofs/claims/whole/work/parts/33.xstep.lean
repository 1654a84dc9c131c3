/-! X: one step -/
section XO_1
variable {Xquiet Xfuel XscriptSize XinputSize Xcursor XitemCount XtablePresent XcommandCount XoutputSize XpatternSize XholdSize XlineNumber XstepCount XnextLine Xpointer Xsubstituted XresultSize : Int32} {Xscript Xinput Xitems Xverb Xnegated Xeverywhere XlabelStart XlabelSize Xtarget XreplacementStart XreplacementEnd Xreplacement Xaddress XstartAnchor XendAnchor XatomCount XatomChar XatomStarred Xoutput Xpattern Xhold XactivationLine Xresult : Nat → Int32}
theorem xm_subst {L n k : Nat} {d : cm_T} {Mout Mhold Mac : Nat → Int32} {Mo Mh Mm Mq Mst : Nat} {post : Int32 → SX → Prop} (hL : L ≤ 128) (hn : n ≤ 64) (hk : k < 16) (h115 : d.2.1 = 115) (hX : tb_X Xscript L Xverb Xnegated Xeverywhere XlabelStart XlabelSize XreplacementStart XreplacementEnd Xreplacement Xaddress XstartAnchor XendAnchor XatomCount XatomChar XatomStarred k d) (hrp : d.2.2.1.2.1.2.1 + d.2.2.1.2.1.2.2.1 ≤ L)
    (h : ∀ r n' pat' t' rl res, rn_sub Xscript L d (Mout, Mo, Xpattern, n, Mhold, Mh, Mm, Mq, Mst, Xsubstituted, Mac) = (r, (Mout, Mo, pat', n', Mhold, Mh, Mm, Mq, Mst, t', Mac)) → post r (Xquiet, Xfuel, XscriptSize, XinputSize, Xcursor, XitemCount, XtablePresent, XcommandCount, XoutputSize, nI n', XholdSize, XlineNumber, XstepCount, XnextLine, Xpointer, t', rl, Xscript, Xinput, Xitems, Xverb, Xnegated, Xeverywhere, XlabelStart, XlabelSize, Xtarget, XreplacementStart, XreplacementEnd, Xreplacement, Xaddress, XstartAnchor, XendAnchor, XatomCount, XatomChar, XatomStarred, Xoutput, pat', Xhold, XactivationLine, res)) :
    wpX_substitute post (Xquiet, Xfuel, XscriptSize, XinputSize, Xcursor, XitemCount, XtablePresent, XcommandCount, XoutputSize, nI n, XholdSize, XlineNumber, XstepCount, XnextLine, Xpointer, Xsubstituted, XresultSize, Xscript, Xinput, Xitems, Xverb, Xnegated, Xeverywhere, XlabelStart, XlabelSize, Xtarget, XreplacementStart, XreplacementEnd, Xreplacement, Xaddress, XstartAnchor, XendAnchor, XatomCount, XatomChar, XatomStarred, Xoutput, Xpattern, Xhold, XactivationLine, Xresult) (nI k) := by
  obtain ⟨x1, x2, x3, x4, x5, x6⟩ := hX
  obtain ⟨s1, s2, s3, s4, g, s5, s6⟩ := x5 h115
  have f12 := rg_x_12 s5
  unfold rn_sub at h
  dsimp only at h
  rw [s5] at h
  dsimp only at h
  rw [← s1] at h
  unfold wpX_substitute
  refine nm_r (show nI k * 3 + 2 = nI (k * 3 + 2) by rw [show nI k * 3 = nI (k * 3) from pk_mul k 3]; exact nI_add (k * 3) 2) ?_
  refine xm_findMatch (p := 0) (by omega) hn (by omega) s6 f12.1 f12.2.2.1 f12.2.2.2 ⟨66, ?_⟩
  refine xm_27 (L := L) (f := 65) (tr := sb_x Xscript L Xpattern n g d.2.2.1.2.1.2.1 d.2.2.1.2.1.2.2.1 (Xeverywhere k) 65 0 [] 0) hn hk s6 f12.1 f12.2.2.1 f12.2.2.2 (by omega) s2 s3 s4 ?_ ?_ ?_ 0 [] 0 Xresult (by omega) (by omega) (by omega) (Nat.zero_le _) (rl_0 _) rfl
  · intro z rl res
    exact h (-1) n Xpattern Xsubstituted rl res (by rw [if_pos z])
  · intro z w rl res
    exact h 3 n Xpattern Xsubstituted rl res (by rw [if_neg z, if_pos w])
  · intro z w rl res
    exact h (-1) _ _ 1 rl res (by rw [if_neg z, if_neg w])
theorem xm_swap {post : SX → Prop} (h : post (Xquiet, Xfuel, XscriptSize, XinputSize, Xcursor, XitemCount, XtablePresent, XcommandCount, XoutputSize, XholdSize, XpatternSize, XlineNumber, XstepCount, XnextLine, Xpointer, Xsubstituted, XresultSize, Xscript, Xinput, Xitems, Xverb, Xnegated, Xeverywhere, XlabelStart, XlabelSize, Xtarget, XreplacementStart, XreplacementEnd, Xreplacement, Xaddress, XstartAnchor, XendAnchor, XatomCount, XatomChar, XatomStarred, Xoutput, cp_y Xhold 0 Xpattern 0 64, cp_y Xpattern 0 Xhold 0 64, XactivationLine, Xresult)) : wpX_swapSpaces post (Xquiet, Xfuel, XscriptSize, XinputSize, Xcursor, XitemCount, XtablePresent, XcommandCount, XoutputSize, XpatternSize, XholdSize, XlineNumber, XstepCount, XnextLine, Xpointer, Xsubstituted, XresultSize, Xscript, Xinput, Xitems, Xverb, Xnegated, Xeverywhere, XlabelStart, XlabelSize, Xtarget, XreplacementStart, XreplacementEnd, Xreplacement, Xaddress, XstartAnchor, XendAnchor, XatomCount, XatomChar, XatomStarred, Xoutput, Xpattern, Xhold, XactivationLine, Xresult) := by
  unfold wpX_swapSpaces
  have loop : ∀ f x, 64 - x < f → x ≤ 64 → wX_swapSpaces_2 post Xquiet Xfuel XscriptSize XinputSize Xcursor XitemCount XtablePresent XcommandCount XoutputSize XpatternSize XholdSize XlineNumber XstepCount XnextLine Xpointer Xsubstituted XresultSize f (nI x) Xscript Xinput Xitems Xverb Xnegated Xeverywhere XlabelStart XlabelSize Xtarget XreplacementStart XreplacementEnd Xreplacement Xaddress XstartAnchor XendAnchor XatomCount XatomChar XatomStarred Xoutput (cp_y Xhold 0 Xpattern 0 x) (cp_y Xpattern 0 Xhold 0 x) XactivationLine Xresult := by
    intro f
    induction f with
    | zero => intro x h; exact absurd h (Nat.not_lt_zero _)
    | succ f ih =>
    intro x hf hx
    have vi : x < 64 → vp_in (nI x) 64 := fun w => vp_in_nI w (by omega)
    refine pk_le 64 x (fun w => ?_) (fun w => ⟨vi w, nm_e ⟨vi w, vi w, nm_e ⟨vi w, nm_e (nm_r (nI_1 x) ?_)⟩⟩⟩)
    · rw [show x = 64 by omega]; exact h
    · rw [nI_clamp (by omega)]
      have p1 : cp_y Xhold 0 Xpattern 0 x x = Xpattern x := by unfold cp_y; rw [if_neg (by omega)]
      have p2 : cp_y Xpattern 0 Xhold 0 x x = Xhold x := by unfold cp_y; rw [if_neg (by omega)]
      have e := cp_s Xhold 0 Xpattern 0 x
      have e' := cp_s Xpattern 0 Xhold 0 x
      rw [Nat.zero_add] at e e'
      rw [p1, p2, e, e']
      exact ih (x + 1) (by omega) (by omega)
  have := loop 65 0 (by omega) (by omega)
  rw [cp_0, cp_0] at this
  exact ⟨_, this⟩
theorem xm_N {I o n m q : Nat} {Mhold Mac : Nat → Int32} {Mh Mst : Nat} {Mt : Int32} {post : Int32 → SX → Prop} (hI : I ≤ 128) (ho : o ≤ 256) (hn : n ≤ 64) (hm : m ≤ 128) (hq : q ≤ I + 1)
    (h : ∀ r out' o' pat' n' m' q', rn_N Xinput I Xquiet (Xoutput, o, Xpattern, n, Mhold, Mh, m, q, Mst, Mt, Mac) = (r, (out', o', pat', n', Mhold, Mh, m', q', Mst, Mt, Mac)) → post r (Xquiet, Xfuel, XscriptSize, nI I, Xcursor, XitemCount, XtablePresent, XcommandCount, nI o', nI n', XholdSize, nI m', XstepCount, nI q', Xpointer, Xsubstituted, XresultSize, Xscript, Xinput, Xitems, Xverb, Xnegated, Xeverywhere, XlabelStart, XlabelSize, Xtarget, XreplacementStart, XreplacementEnd, Xreplacement, Xaddress, XstartAnchor, XendAnchor, XatomCount, XatomChar, XatomStarred, out', pat', Xhold, XactivationLine, Xresult)) :
    wpX_joinNextLine post (Xquiet, Xfuel, XscriptSize, nI I, Xcursor, XitemCount, XtablePresent, XcommandCount, nI o, nI n, XholdSize, nI m, XstepCount, nI q, Xpointer, Xsubstituted, XresultSize, Xscript, Xinput, Xitems, Xverb, Xnegated, Xeverywhere, XlabelStart, XlabelSize, Xtarget, XreplacementStart, XreplacementEnd, Xreplacement, Xaddress, XstartAnchor, XendAnchor, XatomCount, XatomChar, XatomStarred, Xoutput, Xpattern, Xhold, XactivationLine, Xresult) := by
  unfold rn_N at h
  dsimp only at h
  unfold wpX_joinNextLine
  refine xm_allRead hI hq ?_
  by_cases w : I ≤ q
  · rw [decide_eq_true w]
    rw [if_pos w] at h
    refine br_f (by decide) (br_c (fun q0 => ?_) (fun q0 => ?_))
    · rw [if_pos q0] at h
      unfold rn_print at h
      dsimp only at h
      refine xm_print ho hn (fun y => br_t rfl ?_) (fun y => br_f (by decide) ?_)
      · rw [if_neg y] at h
        exact h 0 _ _ _ _ _ _ rfl
      · rw [if_pos y] at h
        exact h 3 _ _ _ _ _ _ rfl
    · rw [if_neg q0] at h
      exact h 0 _ _ _ _ _ _ rfl
  · rw [decide_eq_false w]
    rw [if_neg w] at h
    refine br_t rfl ?_
    rw [nI_1]
    refine xm_readLine hI (by omega) (by omega) hm (fun y => br_t rfl ⟨pk_in n 64 (by omega), nm_e ?_⟩) (fun y => br_f (by decide) ?_)
    · rw [if_neg y] at h
      rw [nI_clamp (by omega)]
      exact h (-1) _ _ _ _ _ _ rfl
    · rw [if_pos y] at h
      exact h 3 _ _ _ _ _ _ rfl
theorem xm_act {L I F k Mo Mp Mh Mm Mq Mst : Nat} {tg : Nat → Nat} {d : cm_T} {Mout Mpat Mhold Mac : Nat → Int32} {Mt : Int32} {post : Int32 → SX → Prop} (hL : L ≤ 128) (hI : I ≤ 128) (hk : k < 16) (hrp : d.2.2.1.2.1.2.1 + d.2.2.1.2.1.2.2.1 ≤ L) (hX : tb_X Xscript L Xverb Xnegated Xeverywhere XlabelStart XlabelSize XreplacementStart XreplacementEnd Xreplacement Xaddress XstartAnchor XendAnchor XatomCount XatomChar XatomStarred k d) (htg : (d.2.1 = 98 ∨ d.2.1 = 116) → Xtarget k = nI (tg k)) (hok : rn_ok Xinput I F (Mout, Mo, Mpat, Mp, Mhold, Mh, Mm, Mq, Mst, Mt, Mac))
    (h : ∀ r k' Moutp Mop Mpatp Mpp Mholdp Mhp Mmp Mqp Mstp Mtp Macp pt rl res, rn_act Xscript Xinput L I Xquiet tg d k (Mout, Mo, Mpat, Mp, Mhold, Mh, Mm, Mq, Mst, Mt, Mac) = (r, k', (Moutp, Mop, Mpatp, Mpp, Mholdp, Mhp, Mmp, Mqp, Mstp, Mtp, Macp)) → (r = -1 → pt = nI k') → post r (Xquiet, Xfuel, XscriptSize, nI I, Xcursor, XitemCount, XtablePresent, XcommandCount, nI Mop, nI Mpp, nI Mhp, nI Mmp, nI Mstp, nI Mqp, pt, Mtp, rl, Xscript, Xinput, Xitems, Xverb, Xnegated, Xeverywhere, XlabelStart, XlabelSize, Xtarget, XreplacementStart, XreplacementEnd, Xreplacement, Xaddress, XstartAnchor, XendAnchor, XatomCount, XatomChar, XatomStarred, Moutp, Mpatp, Mholdp, Macp, res)) :
    wpX_act post (Xquiet, Xfuel, XscriptSize, nI I, Xcursor, XitemCount, XtablePresent, XcommandCount, nI Mo, nI Mp, nI Mh, nI Mm, nI Mst, nI Mq, nI (k + 1), Mt, XresultSize, Xscript, Xinput, Xitems, Xverb, Xnegated, Xeverywhere, XlabelStart, XlabelSize, Xtarget, XreplacementStart, XreplacementEnd, Xreplacement, Xaddress, XstartAnchor, XendAnchor, XatomCount, XatomChar, XatomStarred, Mout, Mpat, Mhold, Mac, Xresult) (nI k) := by
  obtain ⟨h1, h2, h3, h4, h5, h6⟩ := hok
  have hm := ln_le h5
  have hkl := ln_kle Xinput I
  have hq : Mq ≤ I + 1 := by
    rcases h5 with ⟨y, _⟩ | ⟨y, _⟩ <;> omega
  have vk : vp_in (nI k) 16 := pk_in k 16 hk
  unfold rn_act at h
  dsimp only at h
  unfold wpX_act
  refine ⟨vk, ?_⟩
  rw [nI_clamp (by omega), hX.1]
  refine nm_e ?_
  refine br_c (fun c => ?_) (fun c71 => ?_)
  · rw [if_neg (by rw [c]; decide), if_neg (by rw [c]; decide), if_neg (by rw [c]; decide), if_neg (by rw [c]; decide), if_neg (by rw [c]; decide), if_neg (by rw [c]; decide), if_neg (by rw [c]; decide), if_pos c] at h
    unfold wpX_joinToPattern
    refine pk_le (Mp + 1 + Mh) 64 (fun w => ⟨pk_in Mp 64 (by omega), nm_e ?_⟩) (fun w => ?_) (hx := by rw [nI_1, nI_add])
    · rw [if_neg (by omega)] at h
      rw [nI_clamp (by omega), nI_1]
      refine xm_cp_hold_pattern (a := 0) (by omega) (by omega) (nm_r (show nI Mp + (1 + nI Mh) = nI (Mp + 1 + Mh) by rw [show (1 : Int32) + nI Mh = nI (1 + Mh) from nI_add 1 Mh, nI_add, Nat.add_assoc]) ?_)
      exact h (-1) (k + 1) _ _ _ _ _ _ _ _ _ _ _ _ _ _ rfl (fun _ => rfl)
    · rw [if_pos w] at h
      exact h (3) (k + 1) _ _ _ _ _ _ _ _ _ _ _ _ _ _ rfl (fun y => absurd y (by decide))
  refine br_c (fun c => ?_) (fun c72 => ?_)
  · rw [if_neg (by rw [c]; decide), if_neg (by rw [c]; decide), if_neg (by rw [c]; decide), if_neg (by rw [c]; decide), if_neg (by rw [c]; decide), if_neg (by rw [c]; decide), if_pos c] at h
    unfold wpX_joinToHold
    refine pk_le (Mh + 1 + Mp) 64 (fun w => ⟨pk_in Mh 64 (by omega), nm_e ?_⟩) (fun w => ?_) (hx := by rw [nI_1, nI_add])
    · rw [if_neg (by omega)] at h
      rw [nI_clamp (by omega), nI_1]
      refine xm_cp_pattern_hold (a := 0) (by omega) (by omega) (nm_r (show nI Mh + (1 + nI Mp) = nI (Mh + 1 + Mp) by rw [show (1 : Int32) + nI Mp = nI (1 + Mp) from nI_add 1 Mp, nI_add, Nat.add_assoc]) ?_)
      exact h (-1) (k + 1) _ _ _ _ _ _ _ _ _ _ _ _ _ _ rfl (fun _ => rfl)
    · rw [if_pos w] at h
      exact h (3) (k + 1) _ _ _ _ _ _ _ _ _ _ _ _ _ _ rfl (fun y => absurd y (by decide))
  refine br_c (fun c => ?_) (fun c78 => ?_)
  · rw [if_neg (by rw [c]; decide), if_neg (by rw [c]; decide), if_neg (by rw [c]; decide), if_pos c] at h
    refine xm_N (Mhold := Mhold) (Mh := Mh) (Mst := Mst) (Mt := Mt) (Mac := Mac) hI h1 h2 (by omega) hq (fun r out' o' pat' n' m' q' hr => ?_)
    rw [hr] at h
    exact h r (k + 1) _ _ _ _ _ _ _ _ _ _ _ _ _ _ rfl (fun _ => rfl)
  refine br_c (fun c => ⟨vk, ?_⟩) (fun c98 => ?_)
  · rw [if_neg (by rw [c]; decide), if_neg (by rw [c]; decide), if_neg (by rw [c]; decide), if_neg (by rw [c]; decide), if_neg (by rw [c]; decide), if_neg (by rw [c]; decide), if_neg (by rw [c]; decide), if_neg (by rw [c]; decide), if_neg (by rw [c]; decide), if_pos c] at h
    rw [htg (Or.inl c)]
    exact nm_e (h (-1) (tg k) _ _ _ _ _ _ _ _ _ _ _ _ _ _ rfl (fun _ => rfl))
  refine br_c (fun c => ?_) (fun c100 => ?_)
  · rw [if_neg (by rw [c]; decide), if_pos c] at h
    exact h (-2) (k + 1) _ _ _ 0 _ _ _ _ _ _ _ _ _ _ rfl (fun y => absurd y (by decide))
  refine br_c (fun c => ?_) (fun c103 => ?_)
  · rw [if_neg (by rw [c]; decide), if_neg (by rw [c]; decide), if_neg (by rw [c]; decide), if_neg (by rw [c]; decide), if_neg (by rw [c]; decide), if_pos c] at h
    exact xm_cp_hold_pattern (a := 0) (b := 0) (by omega) (by omega) (h (-1) (k + 1) _ _ _ _ _ _ _ _ _ _ _ _ _ _ rfl (fun _ => rfl))
  refine br_c (fun c => ?_) (fun c104 => ?_)
  · rw [if_neg (by rw [c]; decide), if_neg (by rw [c]; decide), if_neg (by rw [c]; decide), if_neg (by rw [c]; decide), if_pos c] at h
    exact xm_cp_pattern_hold (a := 0) (b := 0) (by omega) (by omega) (h (-1) (k + 1) _ _ _ _ _ _ _ _ _ _ _ _ _ _ rfl (fun _ => rfl))
  refine br_c (fun c => ?_) (fun c112 => ?_)
  · rw [if_neg (by rw [c]; decide), if_neg (by rw [c]; decide), if_pos c] at h
    unfold rn_print at h
    dsimp only at h
    refine xm_print h1 h2 (fun y => ?_) (fun y => ?_)
    · rw [if_neg y] at h
      exact h (-1) (k + 1) _ _ _ _ _ _ _ _ _ _ _ _ _ _ rfl (fun _ => rfl)
    · rw [if_pos y] at h
      exact h (3) (k + 1) _ _ _ _ _ _ _ _ _ _ _ _ _ _ rfl (fun y => absurd y (by decide))
  refine br_c (fun c => ?_) (fun c115 => ?_)
  · rw [if_pos c] at h
    refine xm_subst (Mout := Mout) (Mo := Mo) (Mhold := Mhold) (Mh := Mh) (Mm := Mm) (Mq := Mq) (Mst := Mst) (Mac := Mac) hL h2 hk c hX hrp (fun r n' pat' t' rl res hr => ?_)
    rw [hr] at h
    exact h r (k + 1) _ _ _ _ _ _ _ _ _ _ _ _ rl res rfl (fun _ => rfl)
  refine br_c (fun c => ?_) (fun c116 => ?_)
  · rw [if_neg (by rw [c]; decide), if_neg (by rw [c]; decide), if_neg (by rw [c]; decide), if_neg (by rw [c]; decide), if_neg (by rw [c]; decide), if_neg (by rw [c]; decide), if_neg (by rw [c]; decide), if_neg (by rw [c]; decide), if_neg (by rw [c]; decide), if_neg (by rw [c]; decide), if_pos c] at h
    refine br_c (fun t0 => ?_) (fun t0 => ⟨vk, ?_⟩)
    · rw [if_pos t0] at h
      exact h (-1) (k + 1) _ _ _ _ _ _ _ _ _ _ _ _ _ _ rfl (fun _ => rfl)
    · rw [if_neg t0] at h
      rw [htg (Or.inr c)]
      exact nm_e (h (-1) (tg k) _ _ _ _ _ _ _ _ _ _ _ _ _ _ rfl (fun _ => rfl))
  refine br_c (fun c => ?_) (fun c120 => ?_)
  · rw [if_neg (by rw [c]; decide), if_neg (by rw [c]; decide), if_neg (by rw [c]; decide), if_neg (by rw [c]; decide), if_neg (by rw [c]; decide), if_neg (by rw [c]; decide), if_neg (by rw [c]; decide), if_neg (by rw [c]; decide), if_pos c] at h
    exact xm_swap (h (-1) (k + 1) _ _ _ _ _ _ _ _ _ _ _ _ _ _ rfl (fun _ => rfl))
  · rw [if_neg c115, if_neg c100, if_neg c112, if_neg c78, if_neg c104, if_neg c103, if_neg c72, if_neg c71, if_neg c120, if_neg c98, if_neg c116] at h
    exact h (-1) (k + 1) _ _ _ _ _ _ _ _ _ _ _ _ _ _ rfl (fun _ => rfl)
theorem xm_step {L I F k Mo Mp Mh Mm Mq Mst : Nat} {tg : Nat → Nat} {D : Nat → cm_T} {Mout Mpat Mhold Mac : Nat → Int32} {Mt : Int32} {post : Int32 → SX → Prop} (hL : L ≤ 128) (hI : I ≤ 128) (hF : F ≤ 2048) (hk : k < 16) (hok' : cm_ok Xscript L (D k)) (hrp : (D k).2.2.1.2.1.2.1 + (D k).2.2.1.2.1.2.2.1 ≤ L) (hX : tb_X Xscript L Xverb Xnegated Xeverywhere XlabelStart XlabelSize XreplacementStart XreplacementEnd Xreplacement Xaddress XstartAnchor XendAnchor XatomCount XatomChar XatomStarred k (D k)) (htg : ((D k).2.1 = 98 ∨ (D k).2.1 = 116) → Xtarget k = nI (tg k)) (hok : rn_ok Xinput I F (Mout, Mo, Mpat, Mp, Mhold, Mh, Mm, Mq, Mst, Mt, Mac)) (hm1 : 1 ≤ Mm)
    (h : ∀ r k' Moutp Mop Mpatp Mpp Mholdp Mhp Mmp Mqp Mstp Mtp Macp pt rl res, rn_step Xscript Xinput L I F Xquiet tg D k (Mout, Mo, Mpat, Mp, Mhold, Mh, Mm, Mq, Mst, Mt, Mac) = (r, k', (Moutp, Mop, Mpatp, Mpp, Mholdp, Mhp, Mmp, Mqp, Mstp, Mtp, Macp)) → (r = -1 → pt = nI k') → post r (Xquiet, nI F, XscriptSize, nI I, Xcursor, XitemCount, XtablePresent, XcommandCount, nI Mop, nI Mpp, nI Mhp, nI Mmp, nI Mstp, nI Mqp, pt, Mtp, rl, Xscript, Xinput, Xitems, Xverb, Xnegated, Xeverywhere, XlabelStart, XlabelSize, Xtarget, XreplacementStart, XreplacementEnd, Xreplacement, Xaddress, XstartAnchor, XendAnchor, XatomCount, XatomChar, XatomStarred, Moutp, Mpatp, Mholdp, Macp, res)) :
    wpX_step post (Xquiet, nI F, XscriptSize, nI I, Xcursor, XitemCount, XtablePresent, XcommandCount, nI Mo, nI Mp, nI Mh, nI Mm, nI Mst, nI Mq, nI k, Mt, XresultSize, Xscript, Xinput, Xitems, Xverb, Xnegated, Xeverywhere, XlabelStart, XlabelSize, Xtarget, XreplacementStart, XreplacementEnd, Xreplacement, Xaddress, XstartAnchor, XendAnchor, XatomCount, XatomChar, XatomStarred, Mout, Mpat, Mhold, Mac, Xresult) := by
  have hok0 := hok
  obtain ⟨h1, h2, h3, h4, h5, h6⟩ := hok
  have hm := ln_le h5
  have hkl := ln_kle Xinput I
  have hq : Mq ≤ I + 1 := by
    rcases h5 with ⟨y, _⟩ | ⟨y, _⟩ <;> omega
  have vk : vp_in (nI k) 16 := pk_in k 16 hk
  have cok := hok'
  obtain ⟨o1, o2, o3, o4, o5, o6, o7⟩ := hok'
  have hX0 := hX
  obtain ⟨x1, x2, x3, x4, x5, x6⟩ := hX
  unfold wpX_step
  refine pk_lt Mst F (fun w => nm_r (nI_1 Mst) (nm_r (pk_mul k 3) ?_)) (fun w => ?_)
  · have h66 : ∀ b ac, rn_sel Xscript L I (D k) k (Mout, Mo, Mpat, Mp, Mhold, Mh, Mm, Mq, Mst + 1, Mt, Mac) = ((b != decide ((D k).1.2.2.2.1 = 1)), ac) → wX_step_66 post (nI k) (b2_i b) Xquiet (nI F) XscriptSize (nI I) Xcursor XitemCount XtablePresent XcommandCount (nI Mo) (nI Mp) (nI Mh) (nI Mm) (nI (Mst + 1)) (nI Mq) (nI k) Mt XresultSize Xscript Xinput Xitems Xverb Xnegated Xeverywhere XlabelStart XlabelSize Xtarget XreplacementStart XreplacementEnd Xreplacement Xaddress XstartAnchor XendAnchor XatomCount XatomChar XatomStarred Mout Mpat Mhold ac Xresult := by
      intro b ac hs
      refine nm_r (nI_1 k) ⟨vk, ?_⟩
      rw [nI_clamp (by omega), x2]
      unfold rn_step at h
      dsimp only at h
      rw [if_neg (by omega), hs] at h
      dsimp only at h
      refine br_c (fun e => ?_) (fun e => ?_)
      · have sf : (b != decide ((D k).1.2.2.2.1 = 1)) = false := by
          rw [← e]; cases b <;> rfl
        rw [sf, if_neg (by decide)] at h
        exact h (-1) (k + 1) _ _ _ _ _ _ _ _ _ _ _ _ _ _ rfl (fun _ => rfl)
      · have st : (b != decide ((D k).1.2.2.2.1 = 1)) = true := by
          rcases o2 with z | z
          · rw [z] at e ⊢; cases b
            · exact absurd rfl e
            · rfl
          · rw [z] at e ⊢; cases b
            · rfl
            · exact absurd rfl e
        rw [st, if_pos rfl] at h
        exact xm_act (F := F) hL hI hk hrp hX0 htg ⟨h1, h2, h3, by omega, h5, h6⟩ (fun r k' Moutp Mop Mpatp Mpp Mholdp Mhp Mmp Mqp Mstp Mtp Macp pt rl res hr hp => h r k' Moutp Mop Mpatp Mpp Mholdp Mhp Mmp Mqp Mstp Mtp Macp pt rl res hr hp)
    rw [nI_1]
    refine ⟨vp_in_nI (by omega) (by omega), ?_⟩
    rw [nI_clamp (by omega)]
    have single : ¬ (D k).1.1 = 2 → wX_step_48 post (nI k) (nI (k * 3)) 0 Xquiet (nI F) XscriptSize (nI I) Xcursor XitemCount XtablePresent XcommandCount (nI Mo) (nI Mp) (nI Mh) (nI Mm) (nI (Mst + 1)) (nI Mq) (nI k) Mt XresultSize Xscript Xinput Xitems Xverb Xnegated Xeverywhere XlabelStart XlabelSize Xtarget XreplacementStart XreplacementEnd Xreplacement Xaddress XstartAnchor XendAnchor XatomCount XatomChar XatomStarred Mout Mpat Mhold Mac Xresult := by
      intro n2
      refine br_t rfl ?_
      refine xm_holds (Mout := Mout) (Mo := Mo) (Mhold := Mhold) (Mh := Mh) (Mst := Mst + 1) (Mt := Mt) (Mac := Mac) hL hI (by omega) h2 (by omega) hq x3 (fun k0 => ?_) (fun k0 => ?_)
      · have e0 : (D k).1.1 = 0 := by
          rcases Nat.eq_zero_or_pos (D k).1.1 with z | z
          · exact z
          · exact absurd k0 (o3 (by omega)).2.1
        refine h66 true Mac ?_
        unfold rn_sel
        dsimp only
        rw [if_pos e0, (o6 e0).2]
        rfl
      · have e1 : (D k).1.1 = 1 := by
          rcases Nat.eq_zero_or_pos (D k).1.1 with z | z
          · exact absurd (o6 z).1 k0
          · omega
        refine h66 _ Mac ?_
        unfold rn_sel
        dsimp only
        rw [if_neg (by omega), if_pos e1]
    by_cases e2 : (D k).1.1 = 2
    · have na : ¬ Xaddress (k * 3 + 1) = 0 := by
        rcases x4 with ⟨y, _⟩ | ⟨_, y1, p, p1, p2, y2⟩ | ⟨_, y1⟩ | ⟨_, y1, _⟩
        · exact absurd y (o4 e2).2.1
        · rw [y1, y2]; exact nI_ne0 (by omega) (by omega)
        · rw [y1]; decide
        · rw [y1]; decide
      refine br_f na (br_f (by decide) ?_)
      exact xm_range (Mout := Mout) (Mo := Mo) (Mhold := Mhold) (Mh := Mh) (Mst := Mst + 1) (Mt := Mt) hL hI hk h2 hm1 (by omega) hq cok e2 x3 x4 (fun b ac hs => h66 b ac hs)
    · have na : Xaddress (k * 3 + 1) = 0 := by
        rcases x4 with ⟨_, y⟩ | ⟨y, _⟩ | ⟨y, _⟩ | ⟨y, _⟩
        · exact y
        · rw [o7 e2] at y; exact absurd y (by decide)
        · rw [o7 e2] at y; exact absurd y (by decide)
        · rw [o7 e2] at y; exact absurd y (by decide)
      exact br_t na (single e2)
  · exact h 2 k Mout Mo Mpat Mp Mhold Mh Mm Mq Mst Mt Mac _ _ _ (by unfold rn_step; dsimp only; rw [if_pos (by omega)]) (fun y => absurd y (by decide))
end XO_1
