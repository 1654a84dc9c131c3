/-! X: the run -/
section XQ_1
variable {Xquiet Xfuel XscriptSize XinputSize Xcursor XitemCount XtablePresent XcommandCount XoutputSize XpatternSize XholdSize XlineNumber XstepCount XnextLine Xpointer Xsubstituted XresultSize : Int32} {Xscript Xinput Xitems Xverb Xnegated Xeverywhere XlabelStart XlabelSize Xtarget XreplacementStart XreplacementEnd Xreplacement Xaddress XstartAnchor XendAnchor XatomCount XatomChar XatomStarred Xoutput Xpattern Xhold XactivationLine Xresult : Nat → Int32}
theorem ln_1 {s : Nat → Int32} {L m q : Nat} (h : ln_I s L m q) (hq : 1 ≤ q) : 1 ≤ m := by
  rcases h with ⟨h1, h2, h3⟩ | ⟨h1, h2, h3, h4⟩
  · rcases h3 with y | y
    · omega
    · obtain ⟨x, rfl⟩ : ∃ x, q = x + 1 := ⟨q - 1, by omega⟩
      rw [Nat.add_sub_cancel] at y
      rw [ln_c, if_pos y] at h2
      omega
  · omega
theorem ln_str {s : Nat → Int32} {L m q m' q' : Nat} (h : ln_I s L m q) (h' : ln_I s L m' q') (hq : q < q') : m < m' := by
  rcases h with ⟨a1, a2, a3⟩ | ⟨a1, a2, a3, a4⟩
  · rcases h' with ⟨b1, b2, b3⟩ | ⟨b1, b2, b3, b4⟩
    · rcases b3 with y | y
      · omega
      · obtain ⟨x, rfl⟩ : ∃ x, q' = x + 1 := ⟨q' - 1, by omega⟩
        rw [Nat.add_sub_cancel] at y
        rw [ln_c, if_pos y] at b2
        have := ln_mono s (show q ≤ x by omega)
        omega
    · have := ln_mono s a1
      omega
  · rcases h' with ⟨b1, _⟩ | ⟨b1, _⟩ <;> omega
theorem xm_71 {c I Mo Mp : Nat} {r : Int32} {Mout Mpat Mhold Mac : Nat → Int32} {Mh Mm Mq Mst : Nat} {Mt : Int32} {G : Nat} {post : Int32 → SX → Prop} (h1 : Mo ≤ 256) (h2 : Mp ≤ 64)
    (h : ∀ r' Moutp Mop Mpatp Mpp Mholdp Mhp Mmp Mqp Mstp Mtp Macp, rn_end Xquiet r (Mout, Mo, Mpat, Mp, Mhold, Mh, Mm, Mq, Mst, Mt, Mac) = (r', (Moutp, Mop, Mpatp, Mpp, Mholdp, Mhp, Mmp, Mqp, Mstp, Mtp, Macp)) → wX_run_17 post G r' (nI (c + 1)) Xquiet Xfuel XscriptSize (nI I) Xcursor XitemCount XtablePresent XcommandCount (nI Mop) (nI Mpp) (nI Mhp) (nI Mmp) (nI Mstp) (nI Mqp) Xpointer Mtp XresultSize Xscript Xinput Xitems Xverb Xnegated Xeverywhere XlabelStart XlabelSize Xtarget XreplacementStart XreplacementEnd Xreplacement Xaddress XstartAnchor XendAnchor XatomCount XatomChar XatomStarred Moutp Mpatp Mholdp Macp Xresult) : wX_run_71 post (wX_run_17 post G) r (nI c) Xquiet Xfuel XscriptSize (nI I) Xcursor XitemCount XtablePresent XcommandCount (nI Mo) (nI Mp) (nI Mh) (nI Mm) (nI Mst) (nI Mq) Xpointer Mt XresultSize Xscript Xinput Xitems Xverb Xnegated Xeverywhere XlabelStart XlabelSize Xtarget XreplacementStart XreplacementEnd Xreplacement Xaddress XstartAnchor XendAnchor XatomCount XatomChar XatomStarred Mout Mpat Mhold Mac Xresult := by
  unfold rn_end at h
  have h91 : (r = -1 → ¬ Xquiet = 0) → wX_run_91 post (wX_run_17 post G) r (nI c) Xquiet Xfuel XscriptSize (nI I) Xcursor XitemCount XtablePresent XcommandCount (nI Mo) (nI Mp) (nI Mh) (nI Mm) (nI Mst) (nI Mq) Xpointer Mt XresultSize Xscript Xinput Xitems Xverb Xnegated Xeverywhere XlabelStart XlabelSize Xtarget XreplacementStart XreplacementEnd Xreplacement Xaddress XstartAnchor XendAnchor XatomCount XatomChar XatomStarred Mout Mpat Mhold Mac Xresult := by
    intro hq
    refine br_c (fun e => nm_r (nI_1 c) ?_) (fun e => nm_r (nI_1 c) ?_)
    · rw [if_neg (by rw [e]; decide), if_pos e] at h
      exact h _ _ _ _ _ _ _ _ _ _ _ _ rfl
    · by_cases e1 : r = -1
      · rw [if_pos e1, if_neg (hq e1)] at h
        rw [e1]
        exact h _ _ _ _ _ _ _ _ _ _ _ _ rfl
      · rw [if_neg e1, if_neg e] at h
        exact h _ _ _ _ _ _ _ _ _ _ _ _ rfl
  refine br_c (fun e => br_c (fun q0 => ?_) (fun q0 => h91 (fun _ => q0))) (fun e => h91 (fun y => absurd y e))
  rw [if_pos e, if_pos q0] at h
  unfold rn_print at h
  dsimp only at h
  refine xm_print h1 h2 (fun y => nm_r (nI_1 c) ?_) (fun y => nm_r (nI_1 c) ?_)
  · rw [if_neg y] at h
    exact h _ _ _ _ _ _ _ _ _ _ _ _ rfl
  · rw [if_pos y] at h
    exact h _ _ _ _ _ _ _ _ _ _ _ _ rfl
theorem xm_36 {L I F n : Nat} {tg : Nat → Nat} {D : Nat → cm_T} {c : Int32} {J : Nat} {post : Int32 → SX → Prop} (hL : L ≤ 128) (hI : I ≤ 128) (hF : F ≤ 2048) (hn : n ≤ 16) (hD : ∀ k, k < n → cm_ok Xscript L (D k) ∧ (D k).2.2.1.2.1.2.1 + (D k).2.2.1.2.1.2.2.1 ≤ L ∧ tb_X Xscript L Xverb Xnegated Xeverywhere XlabelStart XlabelSize XreplacementStart XreplacementEnd Xreplacement Xaddress XstartAnchor XendAnchor XatomCount XatomChar XatomStarred k (D k) ∧ (((D k).2.1 = 98 ∨ (D k).2.1 = 116) → Xtarget k = nI (tg k))) (ht : ∀ k, k < n → tg k ≤ n) :
    ∀ g k rd Mout Mo Mpat Mp Mhold Mh Mm Mq Mst Mt Mac rl res, rn_ok Xinput I F (Mout, Mo, Mpat, Mp, Mhold, Mh, Mm, Mq, Mst, Mt, Mac) → 1 ≤ Mq → F + 1 - Mst ≤ g → rd ≤ Mst → k ≤ n → (∀ r Moutp Mop Mpatp Mpp Mholdp Mhp Mmp Mqp Mstp Mtp Macp pt rl res, rn_in Xscript Xinput L I F n Xquiet tg D g k (Mout, Mo, Mpat, Mp, Mhold, Mh, Mm, Mq, Mst, Mt, Mac) = (r, (Moutp, Mop, Mpatp, Mpp, Mholdp, Mhp, Mmp, Mqp, Mstp, Mtp, Macp)) → wX_run_71 post (wX_run_17 post J) r c Xquiet (nI F) XscriptSize (nI I) Xcursor XitemCount XtablePresent (nI n) (nI Mop) (nI Mpp) (nI Mhp) (nI Mmp) (nI Mstp) (nI Mqp) pt Mtp rl Xscript Xinput Xitems Xverb Xnegated Xeverywhere XlabelStart XlabelSize Xtarget XreplacementStart XreplacementEnd Xreplacement Xaddress XstartAnchor XendAnchor XatomCount XatomChar XatomStarred Moutp Mpatp Mholdp Macp res) → wX_run_36 post (wX_run_17 post J) c (g + 1) (-1) (nI rd) Xquiet (nI F) XscriptSize (nI I) Xcursor XitemCount XtablePresent (nI n) (nI Mo) (nI Mp) (nI Mh) (nI Mm) (nI Mst) (nI Mq) (nI k) Mt rl Xscript Xinput Xitems Xverb Xnegated Xeverywhere XlabelStart XlabelSize Xtarget XreplacementStart XreplacementEnd Xreplacement Xaddress XstartAnchor XendAnchor XatomCount XatomChar XatomStarred Mout Mpat Mhold Mac res := by
  intro g
  induction g with
  | zero => intro k rd Mout Mo Mpat Mp Mhold Mh Mm Mq Mst Mt Mac rl res hok hq hg; have := hok.2.2.2.1; omega
  | succ g ih =>
  intro k rd Mout Mo Mpat Mp Mhold Mh Mm Mq Mst Mt Mac rl res hok hq hg hrd hk h
  have h4 := hok.2.2.2.1
  rw [rn_in] at h
  refine br_f (nI_nlt (show rd ≤ F by omega) (by omega)) (br_t rfl (pk_le n k (fun w => ?_) (fun w => ?_)))
  · rw [if_pos w] at h
    exact h _ _ _ _ _ _ _ _ _ _ _ _ _ _ _ rfl
  · rw [if_neg (by omega)] at h
    obtain ⟨d1, d2, d3, d4⟩ := hD k w
    have hm1 := ln_1 hok.2.2.2.2.1 hq
    obtain ⟨s1, s2, s3⟩ := rn_step_ok (s := Xscript) (L := L) (qt := Xquiet) (tg := tg) (D := D) hok w (ht k w)
    refine xm_step hL hI hF (by omega) d1 d2 d3 d4 hok hm1 ?_
    intro r k' Moutp Mop Mpatp Mpp Mholdp Mhp Mmp Mqp Mstp Mtp Macp pt rl' res' hr hp
    rw [hr] at h s1 s2 s3
    dsimp only at h s1 s2 s3
    refine nm_r (nI_1 rd) ?_
    by_cases e : r = -1
    · rw [if_pos e] at h
      obtain ⟨t1, t2⟩ := s2 e
      rw [e, hp e]
      exact ih k' (rd + 1) Moutp Mop Mpatp Mpp Mholdp Mhp Mmp Mqp Mstp Mtp Macp rl' res' s1 (by omega) (by omega) (by omega) t1 h
    · rw [if_neg e] at h
      have := h r Moutp Mop Mpatp Mpp Mholdp Mhp Mmp Mqp Mstp Mtp Macp pt rl' res' rfl
      exact br_c (fun _ => this) (fun _ => br_f e this)
theorem xm_17 {L I F n : Nat} {tg : Nat → Nat} {D : Nat → cm_T} {post : Int32 → SX → Prop} (hL : L ≤ 128) (hI : I ≤ 128) (hF : F ≤ 2048) (hn : n ≤ 16) (hD : ∀ k, k < n → cm_ok Xscript L (D k) ∧ (D k).2.2.1.2.1.2.1 + (D k).2.2.1.2.1.2.2.1 ≤ L ∧ tb_X Xscript L Xverb Xnegated Xeverywhere XlabelStart XlabelSize XreplacementStart XreplacementEnd Xreplacement Xaddress XstartAnchor XendAnchor XatomCount XatomChar XatomStarred k (D k) ∧ (((D k).2.1 = 98 ∨ (D k).2.1 = 116) → Xtarget k = nI (tg k))) (ht : ∀ k, k < n → tg k ≤ n) :
    ∀ g c Mout Mo Mpat Mp Mhold Mh Mm Mq Mst Mt Mac pt rl res, rn_ok Xinput I F (Mout, Mo, Mpat, Mp, Mhold, Mh, Mm, Mq, Mst, Mt, Mac) → I + 2 - Mq ≤ g → c ≤ Mm → (∀ r Moutp Mop Mpatp Mpp Mholdp Mhp Mmp Mqp Mstp Mtp Macp pt t rl res, rn_out Xscript Xinput L I F n Xquiet tg D g (Mout, Mo, Mpat, Mp, Mhold, Mh, Mm, Mq, Mst, Mt, Mac) = (r, (Moutp, Mop, Mpatp, Mpp, Mholdp, Mhp, Mmp, Mqp, Mstp, Mtp, Macp)) → post r (Xquiet, nI F, XscriptSize, nI I, Xcursor, XitemCount, XtablePresent, nI n, nI Mop, nI Mpp, nI Mhp, nI Mmp, nI Mstp, nI Mqp, pt, t, rl, Xscript, Xinput, Xitems, Xverb, Xnegated, Xeverywhere, XlabelStart, XlabelSize, Xtarget, XreplacementStart, XreplacementEnd, Xreplacement, Xaddress, XstartAnchor, XendAnchor, XatomCount, XatomChar, XatomStarred, Moutp, Mpatp, Mholdp, Macp, res)) → wX_run_17 post (g + 1) (-1) (nI c) Xquiet (nI F) XscriptSize (nI I) Xcursor XitemCount XtablePresent (nI n) (nI Mo) (nI Mp) (nI Mh) (nI Mm) (nI Mst) (nI Mq) pt Mt rl Xscript Xinput Xitems Xverb Xnegated Xeverywhere XlabelStart XlabelSize Xtarget XreplacementStart XreplacementEnd Xreplacement Xaddress XstartAnchor XendAnchor XatomCount XatomChar XatomStarred Mout Mpat Mhold Mac res := by
  intro g
  induction g with
  | zero =>
    intro c Mout Mo Mpat Mp Mhold Mh Mm Mq Mst Mt Mac pt rl res hok hg
    rcases hok.2.2.2.2.1 with ⟨y, _⟩ | ⟨y, _⟩ <;> omega
  | succ g ih =>
  intro c Mout Mo Mpat Mp Mhold Mh Mm Mq Mst Mt Mac pt rl res hok hg hc h
  have hok0 := hok
  obtain ⟨h1, h2, h3, h4, h5, h6⟩ := hok
  have hm := ln_le h5
  have hkl := ln_kle Xinput I
  have hq : Mq ≤ I + 1 := by
    rcases h5 with ⟨y, _⟩ | ⟨y, _⟩ <;> omega
  rw [rn_out] at h
  refine br_f (nI_nlt (a := 128) (by omega) (by decide)) (br_t rfl ?_)
  have stop : ∀ r, ¬ r = -1 → ¬ r = -2 → rn_cyc Xscript Xinput L I F n Xquiet tg D (Mout, Mo, Mpat, Mp, Mhold, Mh, Mm, Mq, Mst, Mt, Mac) = (r, (Mout, Mo, Mpat, Mp, Mhold, Mh, Mm, Mq, Mst, Mt, Mac)) → ∀ pt t rl res, ∃ f, wX_run_36 post (wX_run_17 post (g + 1)) (nI c) f r 0 Xquiet (nI F) XscriptSize (nI I) Xcursor XitemCount XtablePresent (nI n) (nI Mo) (nI Mp) (nI Mh) (nI Mm) (nI Mst) (nI Mq) pt t rl Xscript Xinput Xitems Xverb Xnegated Xeverywhere XlabelStart XlabelSize Xtarget XreplacementStart XreplacementEnd Xreplacement Xaddress XstartAnchor XendAnchor XatomCount XatomChar XatomStarred Mout Mpat Mhold Mac res := by
    intro r e1 e2 hcy pt t rl res
    refine ⟨1, ?_⟩
    rw [hcy] at h
    dsimp only at h
    rw [if_neg e1] at h
    have h71 : wX_run_71 post (wX_run_17 post (g + 1)) r (nI c) Xquiet (nI F) XscriptSize (nI I) Xcursor XitemCount XtablePresent (nI n) (nI Mo) (nI Mp) (nI Mh) (nI Mm) (nI Mst) (nI Mq) pt t rl Xscript Xinput Xitems Xverb Xnegated Xeverywhere XlabelStart XlabelSize Xtarget XreplacementStart XreplacementEnd Xreplacement Xaddress XstartAnchor XendAnchor XatomCount XatomChar XatomStarred Mout Mpat Mhold Mac res := by
      refine br_f e1 (br_f e2 (nm_r (nI_1 c) ?_))
      have := h r Mout Mo Mpat Mp Mhold Mh Mm Mq Mst Mt Mac pt t rl res rfl
      exact br_c (fun _ => this) (fun _ => br_f e1 this)
    exact br_c (fun _ => h71) (fun _ => br_f e1 h71)
  have hbeg : rn_beg Xinput I (Mout, Mo, Mpat, Mp, Mhold, Mh, Mm, Mq, Mst, Mt, Mac) = if I ≤ Mq then (0, (Mout, Mo, Mpat, Mp, Mhold, Mh, Mm, Mq, Mst, Mt, Mac)) else if 64 < ln_e Xinput I Mq - Mq then (3, (Mout, Mo, Mpat, Mp, Mhold, Mh, Mm, Mq, Mst, Mt, Mac)) else (-1, (Mout, Mo, cp_y Xinput Mq Mpat 0 (ln_e Xinput I Mq - Mq), ln_e Xinput I Mq - Mq, Mhold, Mh, Mm + 1, ln_e Xinput I Mq + 1, Mst, 0, Mac)) := rfl
  unfold wpX_startCycle
  refine xm_allRead hI hq ?_
  by_cases w : I ≤ Mq
  · rw [decide_eq_true w]
    rw [if_pos w] at hbeg
    refine br_f (by decide) ?_
    exact stop 0 (by decide) (by decide) (by unfold rn_cyc; rw [hbeg]; rfl) _ _ _ _
  · rw [decide_eq_false w]
    rw [if_neg w] at hbeg
    refine br_t rfl ?_
    have hb0 := rn_beg_ok hok0
    refine xm_readLine (b := 0) hI (by omega) (by omega) (by omega) (fun y => ?_) (fun y => ?_)
    · rw [Nat.zero_add] at y ⊢
      rw [if_neg y] at hbeg
      rw [hbeg] at hb0
      refine ⟨F + 3, ?_⟩
      refine xm_36 (g := F + 2) hL hI hF hn hD ht 0 0 Mout Mo _ _ Mhold Mh _ _ Mst 0 Mac _ _ hb0.1 (by omega) (by omega) (by omega) (by omega) (fun r Moutp Mop Mpatp Mpp Mholdp Mhp Mmp Mqp Mstp Mtp Macp pt' rl' res' hin => ?_)
      have hcy : rn_cyc Xscript Xinput L I F n Xquiet tg D (Mout, Mo, Mpat, Mp, Mhold, Mh, Mm, Mq, Mst, Mt, Mac) = rn_end Xquiet r (Moutp, Mop, Mpatp, Mpp, Mholdp, Mhp, Mmp, Mqp, Mstp, Mtp, Macp) := by
        unfold rn_cyc
        rw [hbeg]
        dsimp only
        rw [if_pos rfl, hin]
      have hio := rn_in_ok (s := Xscript) (L := L) (qt := Xquiet) (tg := tg) (D := D) ht (F + 2) 0 _ hb0.1
      rw [hin] at hio
      have hco := rn_cyc_ok (s := Xscript) (L := L) (qt := Xquiet) (tg := tg) (D := D) ht hok0
      refine xm_71 hio.1.1 hio.1.2.1 (fun r' Mout2 Mo2 Mpat2 Mp2 Mhold2 Mh2 Mm2 Mq2 Mst2 Mt2 Mac2 hend => ?_)
      rw [hend] at hcy
      rw [hcy] at h hco
      dsimp only at h hco
      by_cases e : r' = -1
      · rw [if_pos e] at h
        obtain ⟨k1, k2⟩ := hco
        have k3 := k2 e
        have k3' : Mq < I ∧ Mq < Mq2 := k3
        rw [e]
        exact ih (c + 1) Mout2 Mo2 Mpat2 Mp2 Mhold2 Mh2 Mm2 Mq2 Mst2 Mt2 Mac2 _ _ _ k1 (by omega) (by have := ln_str h5 k1.2.2.2.2.1 k3'.2; omega) h
      · rw [if_neg e] at h
        have := h r' Mout2 Mo2 Mpat2 Mp2 Mhold2 Mh2 Mm2 Mq2 Mst2 Mt2 Mac2 pt' Mt2 rl' res' rfl
        exact br_c (fun _ => this) (fun _ => br_f e this)
    · rw [Nat.zero_add] at y
      rw [if_pos y] at hbeg
      exact stop 3 (by decide) (by decide) (by unfold rn_cyc; rw [hbeg]; rfl) _ _ _ _
/-- the activation lines at a run's start -/
def rn_a0 (a : Nat → Int32) (x : Nat) : Nat → Int32 := fun j => if j < x then 0 else a j
theorem xm_run {L I F n : Nat} {tg : Nat → Nat} {D : Nat → cm_T} {post : Int32 → SX → Prop} (hL : L ≤ 128) (hI : I ≤ 128) (hF : F ≤ 2048) (hn : n ≤ 16) (hD : ∀ k, k < n → cm_ok Xscript L (D k) ∧ (D k).2.2.1.2.1.2.1 + (D k).2.2.1.2.1.2.2.1 ≤ L ∧ tb_X Xscript L Xverb Xnegated Xeverywhere XlabelStart XlabelSize XreplacementStart XreplacementEnd Xreplacement Xaddress XstartAnchor XendAnchor XatomCount XatomChar XatomStarred k (D k) ∧ (((D k).2.1 = 98 ∨ (D k).2.1 = 116) → Xtarget k = nI (tg k))) (ht : ∀ k, k < n → tg k ≤ n)
    (h : ∀ r Moutp Mop Mpatp Mpp Mholdp Mhp Mmp Mqp Mstp Mtp Macp pt t rl res, rn_out Xscript Xinput L I F n Xquiet tg D (I + 2) (Xoutput, 0, Xpattern, 0, Xhold, 0, 0, 0, 0, 0, rn_a0 XactivationLine 16) = (r, (Moutp, Mop, Mpatp, Mpp, Mholdp, Mhp, Mmp, Mqp, Mstp, Mtp, Macp)) → post r (Xquiet, nI F, XscriptSize, nI I, Xcursor, XitemCount, 1, nI n, nI Mop, nI Mpp, nI Mhp, nI Mmp, nI Mstp, nI Mqp, pt, t, rl, Xscript, Xinput, Xitems, Xverb, Xnegated, Xeverywhere, XlabelStart, XlabelSize, Xtarget, XreplacementStart, XreplacementEnd, Xreplacement, Xaddress, XstartAnchor, XendAnchor, XatomCount, XatomChar, XatomStarred, Moutp, Mpatp, Mholdp, Macp, res)) :
    wpX_run post (Xquiet, nI F, XscriptSize, nI I, Xcursor, XitemCount, 1, nI n, XoutputSize, XpatternSize, XholdSize, XlineNumber, XstepCount, XnextLine, Xpointer, Xsubstituted, XresultSize, Xscript, Xinput, Xitems, Xverb, Xnegated, Xeverywhere, XlabelStart, XlabelSize, Xtarget, XreplacementStart, XreplacementEnd, Xreplacement, Xaddress, XstartAnchor, XendAnchor, XatomCount, XatomChar, XatomStarred, Xoutput, Xpattern, Xhold, XactivationLine, Xresult) := by
  unfold wpX_run
  refine br_f (by decide) ?_
  unfold wpX_startRun
  suffices hs : ∃ f, wX_run_17 post f (-1) 0 Xquiet (nI F) XscriptSize (nI I) Xcursor XitemCount 1 (nI n) 0 0 0 0 0 0 Xpointer 0 XresultSize Xscript Xinput Xitems Xverb Xnegated Xeverywhere XlabelStart XlabelSize Xtarget XreplacementStart XreplacementEnd Xreplacement Xaddress XstartAnchor XendAnchor XatomCount XatomChar XatomStarred Xoutput Xpattern Xhold (rn_a0 XactivationLine 16) Xresult by
    have loop : ∀ f x, 16 - x < f → x ≤ 16 → wX_startRun_37 (fun u => match u with | (Xquiet1, Xfuel1, XscriptSize1, XinputSize1, Xcursor1, XitemCount1, XtablePresent1, XcommandCount1, XoutputSize1, XpatternSize1, XholdSize1, XlineNumber1, XstepCount1, XnextLine1, Xpointer1, Xsubstituted1, XresultSize1, Xscript1, Xinput1, Xitems1, Xverb1, Xnegated1, Xeverywhere1, XlabelStart1, XlabelSize1, Xtarget1, XreplacementStart1, XreplacementEnd1, Xreplacement1, Xaddress1, XstartAnchor1, XendAnchor1, XatomCount1, XatomChar1, XatomStarred1, Xoutput1, Xpattern1, Xhold1, XactivationLine1, Xresult1) => ∃ n17 : Nat, wX_run_17 post n17 (-1) 0 Xquiet1 Xfuel1 XscriptSize1 XinputSize1 Xcursor1 XitemCount1 XtablePresent1 XcommandCount1 XoutputSize1 XpatternSize1 XholdSize1 XlineNumber1 XstepCount1 XnextLine1 Xpointer1 Xsubstituted1 XresultSize1 Xscript1 Xinput1 Xitems1 Xverb1 Xnegated1 Xeverywhere1 XlabelStart1 XlabelSize1 Xtarget1 XreplacementStart1 XreplacementEnd1 Xreplacement1 Xaddress1 XstartAnchor1 XendAnchor1 XatomCount1 XatomChar1 XatomStarred1 Xoutput1 Xpattern1 Xhold1 XactivationLine1 Xresult1) Xquiet (nI F) XscriptSize (nI I) Xcursor XitemCount 1 (nI n) 0 0 0 0 0 0 Xpointer 0 XresultSize f (nI x) Xscript Xinput Xitems Xverb Xnegated Xeverywhere XlabelStart XlabelSize Xtarget XreplacementStart XreplacementEnd Xreplacement Xaddress XstartAnchor XendAnchor XatomCount XatomChar XatomStarred Xoutput Xpattern Xhold (rn_a0 XactivationLine x) Xresult := by
      intro f
      induction f with
      | zero => intro x h; exact absurd h (Nat.not_lt_zero _)
      | succ f ih =>
      intro x hf hx
      refine pk_le 16 x (fun w => ?_) (fun w => ⟨pk_in x 16 w, nm_e (nm_r (nI_1 x) ?_)⟩)
      · rw [show x = 16 by omega]; exact hs
      · rw [nI_clamp (by omega)]
        have e : upd (rn_a0 XactivationLine x) x 0 = rn_a0 XactivationLine (x + 1) := by
          funext j
          unfold upd rn_a0
          by_cases z : j = x
          · rw [if_pos z, if_pos (by omega)]
          · rw [if_neg z]
            by_cases y : j < x
            · rw [if_pos y, if_pos (by omega)]
            · rw [if_neg y, if_neg (by omega)]
        rw [e]
        exact ih (x + 1) (by omega) (by omega)
    have e0 : rn_a0 XactivationLine 0 = XactivationLine := by funext j; unfold rn_a0; rw [if_neg (by omega)]
    have := loop 17 0 (by omega) (by omega)
    rw [e0] at this
    exact ⟨17, this⟩
  exact ⟨I + 2 + 1, xm_17 hL hI hF hn hD ht (I + 2) 0 Xoutput 0 Xpattern 0 Xhold 0 0 0 0 0 (rn_a0 XactivationLine 16) _ _ _ ⟨by omega, by omega, by omega, by omega, ln_0 _ _, Or.inl rfl⟩ (by omega) (by omega) h⟩
end XQ_1
