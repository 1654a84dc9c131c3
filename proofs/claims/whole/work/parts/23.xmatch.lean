/-! X's matching -/
section XM_1
variable {Xquiet Xfuel XscriptSize XinputSize Xcursor XitemCount XtablePresent XcommandCount XoutputSize XpatternSize XholdSize XlineNumber XstepCount XnextLine Xpointer Xsubstituted XresultSize : Int32} {Xscript Xinput Xitems Xverb Xnegated Xeverywhere XlabelStart XlabelSize Xtarget XreplacementStart XreplacementEnd Xreplacement Xaddress XstartAnchor XendAnchor XatomCount XatomChar XatomStarred Xoutput Xpattern Xhold XactivationLine Xresult : Nat → Int32}
def mt_lo (i : Nat) : Option Nat → Int32
  | none => -1
  | some d => nI (i + d)
def mt_o1 : Option (Nat × Nat) → Int32
  | none => -1
  | some r => nI r.1
/-- the bits of the next column when the first a atoms have been seen -/
def mt_nb (T ch st : Nat → Int32) (i na d a m : Nat) : Bool := (decide (m < a) && (mt_b st m && (mt_P T ch st i na m d && mt_f T ch m (i + d)))) || (decide (0 < m ∧ m < a + 1) && (!mt_b st (m - 1) && (mt_P T ch st i na (m - 1) d && mt_f T ch (m - 1) (i + d))))
theorem mt_nb0 (T ch st : Nat → Int32) (i na d m : Nat) : mt_nb T ch st i na d 0 m = false := by
  unfold mt_nb
  rw [decide_eq_false (show ¬ m < 0 by omega), decide_eq_false (show ¬ (0 < m ∧ m < 0 + 1) by omega)]
  rfl
theorem mt_nbn (T ch st : Nat → Int32) (i na d m : Nat) (hm : m ≤ na) : mt_nb T ch st i na d na m = mt_C T ch st i na m (d + 1) := by
  unfold mt_nb mt_C
  congr 2
  by_cases h : 0 < m
  · rw [decide_eq_true h, decide_eq_true (show 0 < m ∧ m < na + 1 by omega)]
  · rw [decide_eq_false h, decide_eq_false (show ¬ (0 < m ∧ m < na + 1) by omega)]
/-- one atom more: nothing, or one bit -/
theorem mt_nbs (T ch st : Nat → Int32) (i na d a m : Nat) : mt_nb T ch st i na d (a + 1) m = (mt_nb T ch st i na d a m || (decide (m = if mt_b st a = true then a else a + 1) && (mt_P T ch st i na a d && mt_f T ch a (i + d)))) := by
  unfold mt_nb
  by_cases h1 : m = a
  · subst h1
    rw [decide_eq_true (show m < m + 1 by omega), decide_eq_false (show ¬ m < m by omega)]
    have e : decide (0 < m ∧ m < m + 1 + 1) = decide (0 < m ∧ m < m + 1) := by
      by_cases y : 0 < m
      · rw [decide_eq_true (show 0 < m ∧ m < m + 1 + 1 by omega), decide_eq_true (show 0 < m ∧ m < m + 1 by omega)]
      · rw [decide_eq_false (show ¬ (0 < m ∧ m < m + 1 + 1) by omega), decide_eq_false (show ¬ (0 < m ∧ m < m + 1) by omega)]
    rw [e]
    cases hb : mt_b st m with
    | true => rw [if_pos rfl, decide_eq_true rfl]; simp [Bool.or_comm]
    | false => rw [if_neg (by decide), decide_eq_false (show ¬ m = m + 1 by omega)]; simp
  · by_cases h2 : m = a + 1
    · subst h2
      rw [decide_eq_false (show ¬ a + 1 < a + 1 by omega), decide_eq_false (show ¬ a + 1 < a by omega), decide_eq_true (show 0 < a + 1 ∧ a + 1 < a + 1 + 1 by omega), decide_eq_false (show ¬ (0 < a + 1 ∧ a + 1 < a + 1) by omega), Nat.add_sub_cancel]
      cases hb : mt_b st a with
      | true => rw [if_pos rfl, decide_eq_false (show ¬ a + 1 = a by omega)]; simp
      | false => rw [if_neg (by decide), decide_eq_true rfl]; simp
    · have e1 : decide (m < a + 1) = decide (m < a) := by
        by_cases y : m < a
        · rw [decide_eq_true y, decide_eq_true (by omega)]
        · rw [decide_eq_false y, decide_eq_false (by omega)]
      have e2 : decide (0 < m ∧ m < a + 1 + 1) = decide (0 < m ∧ m < a + 1) := by
        by_cases y : 0 < m ∧ m < a + 1
        · rw [decide_eq_true y, decide_eq_true (by omega)]
        · rw [decide_eq_false y, decide_eq_false (by omega)]
      rw [e1, e2, decide_eq_false (show ¬ m = if mt_b st a = true then a else a + 1 by split <;> omega)]
      simp
theorem xm_37 {j n na anE i d : Nat} {ch st : Nat → Int32} {post : Int32 → Prop} {J : Int32 → Int32 → Int32 → Prop} (hj : j < 48) (hn : n ≤ 64) (hna : na ≤ 12) (hid : i + d ≤ n) (hE : XendAnchor j = nI anE) (hE1 : anE ≤ 1) (hA : ∀ a, a < na → XatomChar (j * 12 + a) = ch a ∧ XatomStarred (j * 12 + a) = st a)
    (hJ : ∀ x8, (i + d < n → ∀ m, m ≤ na → bt x8 m = mt_C Xpattern ch st i na m (d + 1)) → J (mt_lo i (mt_g (mt_Q Xpattern n ch st na anE i) (d + 1))) x8 (nI (i + d + 1))) :
    ∀ f a x6 x8, na - a < f → a ≤ na → (∀ m, m ≤ a → bt x6 m = mt_P Xpattern ch st i na m d) → (∀ m, a < m → m ≤ na → bt x6 m = mt_C Xpattern ch st i na m d) → (i + d < n → ∀ m, m ≤ na → bt x8 m = mt_nb Xpattern ch st i na d a m) →
      wX_longestMatchEnd_37 post J (nI j) (nI na) (nI (j * 12)) (mt_lo i (mt_g (mt_Q Xpattern n ch st na anE i) d)) (nI (i + d)) Xquiet Xfuel XscriptSize XinputSize Xcursor XitemCount XtablePresent XcommandCount XoutputSize (nI n) XholdSize XlineNumber XstepCount XnextLine Xpointer Xsubstituted XresultSize Xscript Xinput Xitems Xverb Xnegated Xeverywhere XlabelStart XlabelSize Xtarget XreplacementStart XreplacementEnd Xreplacement Xaddress XstartAnchor XendAnchor XatomCount XatomChar XatomStarred Xoutput Xpattern Xhold XactivationLine Xresult f x6 x8 (nI a) := by
  intro f
  induction f with
  | zero => intro a x6 x8 h; exact absurd h (Nat.not_lt_zero _)
  | succ f ih =>
  intro a x6 x8 hf ha h1 h2 h3
  refine pk_le na a (fun w => ?_) (fun w => ?_)
  · have e : a = na := by omega
    subst e
    have hR : bt x6 a = mt_R Xpattern ch st i a d := by rw [h1 a (Nat.le_refl _), mt_P_na]
    have hx8 : i + d < n → ∀ m, m ≤ a → bt x8 m = mt_C Xpattern ch st i a m (d + 1) := fun y m hm => by rw [h3 y m hm, mt_nbn _ _ _ _ _ _ _ hm]
    have go := hJ x8 hx8
    have hQ : mt_Q Xpattern n ch st a anE i d = (mt_R Xpattern ch st i a d && (decide (anE = 0) || decide (i + d = n))) := rfl
    have yes : mt_Q Xpattern n ch st a anE i d = true → J (nI (i + d)) x8 (nI (i + d + 1)) := fun q => by rw [mt_g, if_pos q] at go; exact go
    have no : ¬ mt_Q Xpattern n ch st a anE i d = true → J (mt_lo i (mt_g (mt_Q Xpattern n ch st a anE i) d)) x8 (nI (i + d + 1)) := fun q => by rw [mt_g, if_neg q] at go; exact go
    by_cases hb : bt x6 a = true
    · refine br_t ((mt_tst x6 a (by omega)).mpr hb) ⟨pk_in j 48 hj, ?_⟩
      rw [hb] at hR
      rw [nI_clamp (by omega), hE]
      refine pk_eq anE 0 (fun e0 => nm_r (nI_1 (i + d)) (yes (by rw [hQ, ← hR, decide_eq_true e0]; rfl))) (fun e0 => pk_eq (i + d) n (fun en => nm_r (nI_1 (i + d)) (yes (by rw [hQ, ← hR, decide_eq_true en]; simp))) (fun en => nm_r (nI_1 (i + d)) (no (by rw [hQ, decide_eq_false e0, decide_eq_false en]; simp))))
    · refine br_f (fun y => hb ((mt_tst x6 a (by omega)).mp y)) (nm_r (nI_1 (i + d)) (no (fun q => hb ?_)))
      rw [hR]
      rw [hQ] at q
      exact (Bool.and_eq_true _ _ ▸ q).1
  · have hP := h1 a (Nat.le_refl _)
    by_cases hb : bt x6 a = true
    · rw [hb] at hP
      refine br_t ((mt_tst x6 a (by omega)).mpr hb) ?_
      refine nm_r (nI_add (j * 12) a) ⟨vp_in_nI (by omega) (by omega), ?_⟩
      obtain ⟨hc, hs⟩ := hA a w
      have cl : (nI (j * 12 + a)).toNatClampNeg = j * 12 + a := nI_clamp (by omega)
      have vi : vp_in (nI (j * 12 + a)) 576 := vp_in_nI (by omega) (by omega)
      rw [cl, hs]
      have nxt : ∀ x6' x8', (∀ m, m ≤ na → bt x6' m = (bt x6 m || (decide (m = a + 1) && mt_b st a))) → (i + d < n → ∀ m, m ≤ na → bt x8' m = (bt x8 m || (decide (m = if mt_b st a = true then a else a + 1) && mt_f Xpattern ch a (i + d)))) → wX_longestMatchEnd_37 post J (nI j) (nI na) (nI (j * 12)) (mt_lo i (mt_g (mt_Q Xpattern n ch st na anE i) d)) (nI (i + d)) Xquiet Xfuel XscriptSize XinputSize Xcursor XitemCount XtablePresent XcommandCount XoutputSize (nI n) XholdSize XlineNumber XstepCount XnextLine Xpointer Xsubstituted XresultSize Xscript Xinput Xitems Xverb Xnegated Xeverywhere XlabelStart XlabelSize Xtarget XreplacementStart XreplacementEnd Xreplacement Xaddress XstartAnchor XendAnchor XatomCount XatomChar XatomStarred Xoutput Xpattern Xhold XactivationLine Xresult f x6' x8' (nI (a + 1)) := by
        intro x6' x8' g6 g8
        refine ih (a + 1) x6' x8' (by omega) (by omega) (fun m hm => ?_) (fun m hm1 hm2 => ?_) (fun y m hm => ?_)
        · rw [g6 m (by omega)]
          by_cases z : m = a + 1
          · rw [z, decide_eq_true rfl, Bool.true_and, h2 (a + 1) (by omega) (by omega), mt_P_C _ _ _ _ _ (a + 1) _ (by omega), Nat.add_sub_cancel, ← hP, decide_eq_true (Nat.succ_pos a), Bool.true_and, Bool.and_true]
          · rw [decide_eq_false z, Bool.false_and, Bool.or_false]; exact h1 m (by omega)
        · rw [g6 m (by omega), decide_eq_false (by omega), Bool.false_and, Bool.or_false]; exact h2 m (by omega) hm2
        · rw [g8 y m hm, mt_nbs, h3 y m hm, ← hP, Bool.true_and]
      have h80 : ∀ x6', (∀ m, m ≤ na → bt x6' m = (bt x6 m || (decide (m = a + 1) && mt_b st a))) → wX_longestMatchEnd_80 post J (wX_longestMatchEnd_37 post J (nI j) (nI na) (nI (j * 12)) (mt_lo i (mt_g (mt_Q Xpattern n ch st na anE i) d)) (nI (i + d)) Xquiet Xfuel XscriptSize XinputSize Xcursor XitemCount XtablePresent XcommandCount XoutputSize (nI n) XholdSize XlineNumber XstepCount XnextLine Xpointer Xsubstituted XresultSize Xscript Xinput Xitems Xverb Xnegated Xeverywhere XlabelStart XlabelSize Xtarget XreplacementStart XreplacementEnd Xreplacement Xaddress XstartAnchor XendAnchor XatomCount XatomChar XatomStarred Xoutput Xpattern Xhold XactivationLine Xresult f) (nI j) (nI na) (nI (j * 12)) (mt_lo i (mt_g (mt_Q Xpattern n ch st na anE i) d)) x6' (nI (i + d)) x8 (nI a) (nI (j * 12 + a)) Xquiet Xfuel XscriptSize XinputSize Xcursor XitemCount XtablePresent XcommandCount XoutputSize (nI n) XholdSize XlineNumber XstepCount XnextLine Xpointer Xsubstituted XresultSize Xscript Xinput Xitems Xverb Xnegated Xeverywhere XlabelStart XlabelSize Xtarget XreplacementStart XreplacementEnd Xreplacement Xaddress XstartAnchor XendAnchor XatomCount XatomChar XatomStarred Xoutput Xpattern Xhold XactivationLine Xresult := by
        intro x6' g6
        refine pk_le n (i + d) (fun y => nm_r (nI_1 a) (nxt x6' x8 g6 (fun z => by omega))) (fun y => ⟨vi, ?_⟩)
        rw [cl, hc]
        have h117 : mt_f Xpattern ch a (i + d) = true → wX_longestMatchEnd_117 post J (wX_longestMatchEnd_37 post J (nI j) (nI na) (nI (j * 12)) (mt_lo i (mt_g (mt_Q Xpattern n ch st na anE i) d)) (nI (i + d)) Xquiet Xfuel XscriptSize XinputSize Xcursor XitemCount XtablePresent XcommandCount XoutputSize (nI n) XholdSize XlineNumber XstepCount XnextLine Xpointer Xsubstituted XresultSize Xscript Xinput Xitems Xverb Xnegated Xeverywhere XlabelStart XlabelSize Xtarget XreplacementStart XreplacementEnd Xreplacement Xaddress XstartAnchor XendAnchor XatomCount XatomChar XatomStarred Xoutput Xpattern Xhold XactivationLine Xresult f) (nI j) (nI na) (nI (j * 12)) (mt_lo i (mt_g (mt_Q Xpattern n ch st na anE i) d)) x6' (nI (i + d)) x8 (nI a) (nI (j * 12 + a)) Xquiet Xfuel XscriptSize XinputSize Xcursor XitemCount XtablePresent XcommandCount XoutputSize (nI n) XholdSize XlineNumber XstepCount XnextLine Xpointer Xsubstituted XresultSize Xscript Xinput Xitems Xverb Xnegated Xeverywhere XlabelStart XlabelSize Xtarget XreplacementStart XreplacementEnd Xreplacement Xaddress XstartAnchor XendAnchor XatomCount XatomChar XatomStarred Xoutput Xpattern Xhold XactivationLine Xresult := by
          intro hfit
          refine ⟨vi, ?_⟩
          rw [cl, hs]
          refine br_c (fun s0 => nm_e (nm_r (nI_1 a) (nxt x6' _ g6 (fun _ m hm => ?_)))) (fun s0 => nm_e (nm_r (nI_1 a) (nxt x6' _ g6 (fun _ m hm => ?_))))
          · rw [mt_or2 _ _ _ (by omega) (by omega), hfit, Bool.and_true, if_neg (by unfold mt_b; rw [decide_eq_false (fun z => z s0)]; decide)]
          · rw [mt_or1 _ _ _ (by omega) (by omega), hfit, Bool.and_true, if_pos (by unfold mt_b; rw [decide_eq_true s0])]
        refine br_c (fun c1 => h117 (by unfold mt_f; rw [decide_eq_true c1]; rfl)) (fun c1 => ⟨vi, vp_in_nI (by omega) (by omega), ?_⟩)
        rw [nI_clamp (show i + d < 2 ^ 31 by omega)]
        refine br_c (fun c2 => h117 (by unfold mt_f; rw [decide_eq_true c2]; simp)) (fun c2 => nm_r (nI_1 a) (nxt x6' x8 g6 (fun _ m hm => ?_)))
        rw [show mt_f Xpattern ch a (i + d) = false by unfold mt_f; rw [decide_eq_false c1, decide_eq_false c2]; rfl, Bool.and_false, Bool.or_false]
      refine br_c (fun s0 => h80 x6 (fun m hm => ?_)) (fun s0 => nm_e (h80 _ (fun m hm => ?_)))
      · rw [show mt_b st a = false by unfold mt_b; rw [decide_eq_false (fun z => z s0)], Bool.and_false, Bool.or_false]
      · rw [mt_or2 _ _ _ (by omega) (by omega), show mt_b st a = true by unfold mt_b; rw [decide_eq_true s0], Bool.and_true]
    · refine br_f (fun y => hb ((mt_tst x6 a (by omega)).mp y)) (nm_r (nI_1 a) ?_)
      have hP' : mt_P Xpattern ch st i na a d = false := by
        rw [← hP]
        cases hz : bt x6 a
        · rfl
        · exact absurd hz hb
      refine ih (a + 1) x6 x8 (by omega) (by omega) (fun m hm => ?_) (fun m hm1 hm2 => h2 m (by omega) hm2) (fun y m hm => ?_)
      · by_cases z : m = a + 1
        · rw [z, h2 (a + 1) (by omega) (by omega), mt_P_C _ _ _ _ _ (a + 1) _ (by omega), Nat.add_sub_cancel, hP', Bool.and_false, Bool.and_false, Bool.or_false]
        · exact h1 m (by omega)
      · rw [mt_nbs, h3 y m hm, hP', Bool.false_and, Bool.and_false, Bool.or_false]
theorem xm_longest {j n i : Nat} {g : Nat × Nat × Nat × Nat × (Nat → Int32) × (Nat → Int32)} {post : Int32 → Prop} (hj : j < 48) (hn : n ≤ 64) (hi : i ≤ n) (hR : tb_R XstartAnchor XendAnchor XatomCount XatomChar XatomStarred j g) (h12 : g.2.2.2.1 ≤ 12) (hE1 : g.2.2.1 ≤ 1)
    (h : post (mt_lo i (mt_l Xpattern n g.2.2.2.2.1 g.2.2.2.2.2 g.2.2.2.1 g.2.2.1 i))) : wpX_longestMatchEnd post (Xquiet, Xfuel, XscriptSize, XinputSize, Xcursor, XitemCount, XtablePresent, XcommandCount, XoutputSize, nI n, XholdSize, XlineNumber, XstepCount, XnextLine, Xpointer, Xsubstituted, XresultSize, Xscript, Xinput, Xitems, Xverb, Xnegated, Xeverywhere, XlabelStart, XlabelSize, Xtarget, XreplacementStart, XreplacementEnd, Xreplacement, Xaddress, XstartAnchor, XendAnchor, XatomCount, XatomChar, XatomStarred, Xoutput, Xpattern, Xhold, XactivationLine, Xresult) (nI j) (nI i) := by
  obtain ⟨r1, r2, r3, r4⟩ := hR
  unfold wpX_longestMatchEnd
  refine ⟨pk_in j 48 hj, ?_⟩
  rw [nI_clamp (by omega), r3]
  refine nm_e (nm_r (pk_mul j 12) ⟨n + 2, ?_⟩)
  have h1 : ∀ m, m < 32 → bt 1 m = decide (m = 0) := by decide +kernel
  have loop : ∀ f d x6, n + 1 - (i + d) < f → i + d ≤ n + 1 → (i + d ≤ n → ∀ m, m ≤ g.2.2.2.1 → bt x6 m = mt_C Xpattern g.2.2.2.2.1 g.2.2.2.2.2 i g.2.2.2.1 m d) → wX_longestMatchEnd_22 post (nI j) (nI g.2.2.2.1) (nI (j * 12)) Xquiet Xfuel XscriptSize XinputSize Xcursor XitemCount XtablePresent XcommandCount XoutputSize (nI n) XholdSize XlineNumber XstepCount XnextLine Xpointer Xsubstituted XresultSize Xscript Xinput Xitems Xverb Xnegated Xeverywhere XlabelStart XlabelSize Xtarget XreplacementStart XreplacementEnd Xreplacement Xaddress XstartAnchor XendAnchor XatomCount XatomChar XatomStarred Xoutput Xpattern Xhold XactivationLine Xresult f (mt_lo i (mt_g (mt_Q Xpattern n g.2.2.2.2.1 g.2.2.2.2.2 g.2.2.2.1 g.2.2.1 i) d)) x6 (nI (i + d)) := by
    intro f
    induction f with
    | zero => intro d x6 h; exact absurd h (Nat.not_lt_zero _)
    | succ f ih =>
    intro d x6 hf hd hx
    refine pk_lt n (i + d) (fun w => ?_) (fun w => ⟨g.2.2.2.1 + 1, ?_⟩)
    · unfold mt_l at h
      rw [show n + 1 - i = d by omega] at h
      exact h
    · refine xm_37 hj hn h12 w r2 hE1 r4 (fun x8 h8 => ?_) (g.2.2.2.1 + 1) 0 x6 0 (by omega) (by omega) (fun m hm => ?_) (fun m hm1 hm2 => hx w m hm2) (fun y m hm => ?_)
      · exact ih (d + 1) x8 (by omega) (by omega) (fun y m hm => h8 (by omega) m hm)
      · rw [show m = 0 by omega, hx w 0 (by omega), mt_P_C _ _ _ _ _ 0 _ (by omega)]
        simp
      · rw [mt_nb0, b_0]
  exact loop (n + 2) 0 1 (by omega) (by omega) (fun _ m hm => by rw [h1 m (by omega)]; rfl)
theorem xm_findMatch {j n p : Nat} {g : Nat × Nat × Nat × Nat × (Nat → Int32) × (Nat → Int32)} {post : Int32 → Prop} (hj : j < 48) (hn : n ≤ 64) (hp : p ≤ n + 1) (hR : tb_R XstartAnchor XendAnchor XatomCount XatomChar XatomStarred j g) (h12 : g.2.2.2.1 ≤ 12) (hS1 : g.2.1 ≤ 1) (hE1 : g.2.2.1 ≤ 1)
    (h : post (mt_o1 (mt_1 Xpattern n g.2.2.2.2.1 g.2.2.2.2.2 g.2.2.2.1 g.2.1 g.2.2.1 p))) : wpX_findMatch post (Xquiet, Xfuel, XscriptSize, XinputSize, Xcursor, XitemCount, XtablePresent, XcommandCount, XoutputSize, nI n, XholdSize, XlineNumber, XstepCount, XnextLine, Xpointer, Xsubstituted, XresultSize, Xscript, Xinput, Xitems, Xverb, Xnegated, Xeverywhere, XlabelStart, XlabelSize, Xtarget, XreplacementStart, XreplacementEnd, Xreplacement, Xaddress, XstartAnchor, XendAnchor, XatomCount, XatomChar, XatomStarred, Xoutput, Xpattern, Xhold, XactivationLine, Xresult) (nI j) (nI p) := by
  have hR0 := hR
  obtain ⟨r1, r2, r3, r4⟩ := hR
  have nn : ∀ x : Nat, x < 2 ^ 31 → ¬ nI x = -1 := fun x hx e => absurd (nI_pos (n := x) hx) (by rw [e]; exact fun q => q (by decide))
  unfold wpX_findMatch
  refine ⟨pk_in j 48 hj, ?_⟩
  rw [nI_clamp (by omega), r1]
  refine pk_eq g.2.1 0 (fun e0 => ⟨n + 2, ?_⟩) (fun e0 => ⟨2, ?_⟩)
  · have loop : ∀ f i, n + 1 - i < f → i ≤ n + 1 → post (mt_o1 (mt_s (mt_at Xpattern n g.2.2.2.2.1 g.2.2.2.2.2 g.2.2.2.1 g.2.1 g.2.2.1) (n + 1 - i) i)) → wX_findMatch_21 post (nI j) (nI n) Xquiet Xfuel XscriptSize XinputSize Xcursor XitemCount XtablePresent XcommandCount XoutputSize (nI n) XholdSize XlineNumber XstepCount XnextLine Xpointer Xsubstituted XresultSize Xscript Xinput Xitems Xverb Xnegated Xeverywhere XlabelStart XlabelSize Xtarget XreplacementStart XreplacementEnd Xreplacement Xaddress XstartAnchor XendAnchor XatomCount XatomChar XatomStarred Xoutput Xpattern Xhold XactivationLine Xresult f (nI i) := by
      intro f
      induction f with
      | zero => intro i h; exact absurd h (Nat.not_lt_zero _)
      | succ f ih =>
      intro i hf hi hh
      refine pk_lt n i (fun w => ?_) (fun w => ?_)
      · rw [show n + 1 - i = 0 by omega, mt_s] at hh; exact hh
      · obtain ⟨c, hc⟩ : ∃ c, n + 1 - i = c + 1 := ⟨n - i, by omega⟩
        have ea : mt_at Xpattern n g.2.2.2.2.1 g.2.2.2.2.2 g.2.2.2.1 g.2.1 g.2.2.1 i = mt_l Xpattern n g.2.2.2.2.1 g.2.2.2.2.2 g.2.2.2.1 g.2.2.1 i := by
          unfold mt_at; rw [if_neg (fun y => y.1 e0)]
        rw [hc, mt_s, ea] at hh
        refine xm_longest hj hn w hR0 h12 hE1 ?_
        cases hl : mt_l Xpattern n g.2.2.2.2.1 g.2.2.2.2.2 g.2.2.2.1 g.2.2.1 i with
        | none =>
          rw [hl] at hh
          refine br_t rfl (nm_r (nI_1 i) (ih (i + 1) (by omega) (by omega) ?_))
          rw [show n + 1 - (i + 1) = c by omega]
          exact hh
        | some d =>
          rw [hl] at hh
          have := mt_l_lt hl
          exact br_f (nn (i + d) (by omega)) hh
    exact loop (n + 2) p (by omega) hp h
  · rcases Nat.eq_zero_or_pos p with z | z
    · subst z
      rw [mt_1_0 e0] at h
      refine pk_lt 0 0 (fun w => by omega) (fun w => ?_)
      refine xm_longest hj hn (by omega) hR0 h12 hE1 ?_
      cases hl : mt_l Xpattern n g.2.2.2.2.1 g.2.2.2.2.2 g.2.2.2.1 g.2.2.1 0 with
      | none =>
        rw [hl] at h
        exact br_t rfl (nm_r (nI_1 0) (br_t (by decide) h))
      | some d =>
        rw [hl] at h
        have := mt_l_lt hl
        exact br_f (nn (0 + d) (by omega)) h
    · rw [mt_1_anch e0 z] at h
      exact br_t (nI_lt (a := 0) z (by omega)) h
end XM_1
