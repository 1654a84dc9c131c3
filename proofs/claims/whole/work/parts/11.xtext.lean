/-! X's compiler: a text, a regex -/
section XT_1
variable {Xquiet Xfuel XscriptSize XinputSize Xcursor XitemCount XtablePresent XcommandCount XoutputSize XpatternSize XholdSize XlineNumber XstepCount XnextLine Xpointer Xsubstituted XresultSize : Int32} {Xscript Xinput Xitems Xverb Xnegated Xeverywhere XlabelStart XlabelSize Xtarget XreplacementStart XreplacementEnd Xreplacement Xaddress XstartAnchor XendAnchor XatomCount XatomChar XatomStarred Xoutput Xpattern Xhold XactivationLine Xresult : Nat → Int32}
theorem xm_text {L q : Nat} {post : Int32 → SX → Prop} (hL : L ≤ 128) (hc : ch_ok Xscript L) (h1 : 1 ≤ q)
    (hg : ∀ n it, tx_n Xscript L q = some n → (∀ j, j < n → it j = tx_k Xscript (tx_p Xscript q j)) → post 1 (Xquiet, Xfuel, nI L, XinputSize, nI (tx_p Xscript q n + 1), nI n, XtablePresent, XcommandCount, XoutputSize, XpatternSize, XholdSize, XlineNumber, XstepCount, XnextLine, Xpointer, Xsubstituted, XresultSize, Xscript, Xinput, it, Xverb, Xnegated, Xeverywhere, XlabelStart, XlabelSize, Xtarget, XreplacementStart, XreplacementEnd, Xreplacement, Xaddress, XstartAnchor, XendAnchor, XatomCount, XatomChar, XatomStarred, Xoutput, Xpattern, Xhold, XactivationLine, Xresult))
    (hb : tx_n Xscript L q = none → ∀ cu ic it, post 0 (Xquiet, Xfuel, nI L, XinputSize, cu, ic, XtablePresent, XcommandCount, XoutputSize, XpatternSize, XholdSize, XlineNumber, XstepCount, XnextLine, Xpointer, Xsubstituted, XresultSize, Xscript, Xinput, it, Xverb, Xnegated, Xeverywhere, XlabelStart, XlabelSize, Xtarget, XreplacementStart, XreplacementEnd, Xreplacement, Xaddress, XstartAnchor, XendAnchor, XatomCount, XatomChar, XatomStarred, Xoutput, Xpattern, Xhold, XactivationLine, Xresult)) :
    ∀ f k p it, L - p < f → p ≤ L → p = tx_p Xscript q k → (∀ j, j < k → it j = tx_k Xscript (tx_p Xscript q j)) → tx_n Xscript L q = (tx_n Xscript L p).map (fun n => n + k) → wX_readText_5 post f Xquiet Xfuel (nI L) XinputSize (nI p) (nI k) XtablePresent XcommandCount XoutputSize XpatternSize XholdSize XlineNumber XstepCount XnextLine Xpointer Xsubstituted XresultSize Xscript Xinput it Xverb Xnegated Xeverywhere XlabelStart XlabelSize Xtarget XreplacementStart XreplacementEnd Xreplacement Xaddress XstartAnchor XendAnchor XatomCount XatomChar XatomStarred Xoutput Xpattern Xhold XactivationLine Xresult := by
  intro f
  induction f with
  | zero => intro k p it h; omega
  | succ f ih =>
  intro k p it hf hp hpk hit htx
  have hkp : q + k ≤ p := by rw [hpk]; exact tx_p_ge _ _ _
  refine br_f (nI_ge (b := 128) (by omega) (by decide)) ?_
  refine xm_take hL hp ?_
  have go : ∀ c, (s92 : Xscript p = 92 → p + 1 < L ∧ ¬ Xscript (p + 1) = 10) → p < L → ¬ Xscript p = 10 → ¬ Xscript p = 47 → c = tx_k Xscript p → wX_readText_88 post (wX_readText_5 post f) c (nI k) Xquiet Xfuel (nI L) XinputSize (nI (tx_nx Xscript p)) (nI k) XtablePresent XcommandCount XoutputSize XpatternSize XholdSize XlineNumber XstepCount XnextLine Xpointer Xsubstituted XresultSize Xscript Xinput it Xverb Xnegated Xeverywhere XlabelStart XlabelSize Xtarget XreplacementStart XreplacementEnd Xreplacement Xaddress XstartAnchor XendAnchor XatomCount XatomChar XatomStarred Xoutput Xpattern Xhold XactivationLine Xresult := by
    intro c s92 hpL h10 h47 hcd
    refine ⟨pk_in k 128 (by omega), nm_e (nm_r (nI_1 k) ?_)⟩
    rw [nI_clamp (by omega)]
    have hlt := tx_nx_lt Xscript p
    refine ih (k + 1) (tx_nx Xscript p) _ (by omega) (tx_nx_le hpL (fun z => (s92 z).1)) (by rw [tx_p, ← hpk]) (fun j hj => ?_) ?_
    · by_cases e : j = k
      · rw [e, pk_us, hcd, hpk]
      · rw [pk_un e]; exact hit j (by omega)
    · rw [htx, tx_step hpL h10 h47 s92, tx_mapk]
  rcases Nat.lt_or_ge p L with hpL | hpL
  · rw [xp_lo hpL]
    by_cases h47 : Xscript p = 47
    · refine br_t h47 ?_
      rw [tx_fin hpL h47] at htx
      have := hg k it (by rw [htx]; show some (0 + k) = some k; rw [Nat.zero_add]) hit
      rw [← hpk] at this
      exact this
    · refine br_f h47 ?_
      by_cases h92 : Xscript p = 92
      · refine br_t h92 ?_
        refine xm_take hL (by omega) ?_
        rcases Nat.lt_or_ge (p + 1) L with hp1 | hp1
        · rw [xp_lo hp1]
          refine br_f (ch_n1 hc hp1) ?_
          by_cases h10 : Xscript (p + 1) = 10
          · refine br_t h10 ?_
            exact hb (by rw [htx, tx_bad2 h92 (Or.inr h10)]; rfl) _ _ _
          · refine br_f h10 (br_t rfl ?_)
            have nx : tx_nx Xscript p = p + 1 + 1 := by unfold tx_nx; rw [if_pos h92]
            have g := fun c => go c (fun _ => ⟨hp1, h10⟩) hpL (by rw [h92]; decide) h47
            rw [nx] at g
            by_cases h110 : Xscript (p + 1) = 110
            · refine br_t h110 ?_
              exact g 266 (by unfold tx_k tx_c; rw [if_pos h92, if_pos h92, if_pos h110]; rfl)
            · refine br_f h110 ?_
              exact g _ (by unfold tx_k tx_c; rw [if_pos h92, if_pos h92, if_neg h110])
        · rw [xp_hi hp1]
          refine br_t rfl ?_
          exact hb (by rw [htx, tx_bad2 h92 (Or.inl hp1)]; rfl) _ _ _
      · refine br_f h92 ?_
        refine br_f (ch_n1 hc hpL) ?_
        by_cases h10 : Xscript p = 10
        · refine br_t h10 ?_
          exact hb (by rw [htx, tx_bad (Or.inr h10)]; rfl) _ _ _
        · refine br_f h10 (br_f (by decide) ?_)
          have nx : tx_nx Xscript p = p + 1 := by unfold tx_nx; rw [if_neg h92]
          have g := fun c => go c (fun z => absurd z h92) hpL h10 h47
          rw [nx] at g
          exact g _ (by unfold tx_k; rw [if_neg h92, Int32.add_zero])
  · rw [xp_hi hpL]
    refine br_f (by decide) (br_f (by decide) (br_t rfl ?_))
    exact hb (by rw [htx, tx_bad (Or.inl hpL)]; rfl) _ _ _
theorem xm_readText {L q : Nat} {post : Int32 → SX → Prop} (hL : L ≤ 128) (hc : ch_ok Xscript L) (h1 : 1 ≤ q) (hq : q ≤ L)
    (hg : ∀ n it, tx_n Xscript L q = some n → (∀ j, j < n → it j = tx_k Xscript (tx_p Xscript q j)) → post 1 (Xquiet, Xfuel, nI L, XinputSize, nI (tx_p Xscript q n + 1), nI n, XtablePresent, XcommandCount, XoutputSize, XpatternSize, XholdSize, XlineNumber, XstepCount, XnextLine, Xpointer, Xsubstituted, XresultSize, Xscript, Xinput, it, Xverb, Xnegated, Xeverywhere, XlabelStart, XlabelSize, Xtarget, XreplacementStart, XreplacementEnd, Xreplacement, Xaddress, XstartAnchor, XendAnchor, XatomCount, XatomChar, XatomStarred, Xoutput, Xpattern, Xhold, XactivationLine, Xresult))
    (hb : tx_n Xscript L q = none → ∀ cu ic it, post 0 (Xquiet, Xfuel, nI L, XinputSize, cu, ic, XtablePresent, XcommandCount, XoutputSize, XpatternSize, XholdSize, XlineNumber, XstepCount, XnextLine, Xpointer, Xsubstituted, XresultSize, Xscript, Xinput, it, Xverb, Xnegated, Xeverywhere, XlabelStart, XlabelSize, Xtarget, XreplacementStart, XreplacementEnd, Xreplacement, Xaddress, XstartAnchor, XendAnchor, XatomCount, XatomChar, XatomStarred, Xoutput, Xpattern, Xhold, XactivationLine, Xresult)) :
    wpX_readText post (Xquiet, Xfuel, nI L, XinputSize, nI q, XitemCount, XtablePresent, XcommandCount, XoutputSize, XpatternSize, XholdSize, XlineNumber, XstepCount, XnextLine, Xpointer, Xsubstituted, XresultSize, Xscript, Xinput, Xitems, Xverb, Xnegated, Xeverywhere, XlabelStart, XlabelSize, Xtarget, XreplacementStart, XreplacementEnd, Xreplacement, Xaddress, XstartAnchor, XendAnchor, XatomCount, XatomChar, XatomStarred, Xoutput, Xpattern, Xhold, XactivationLine, Xresult) := by
  unfold wpX_readText
  exact ⟨L - q + 1, xm_text hL hc h1 hg hb (L - q + 1) 0 q _ (by omega) hq rfl (fun j hj => absurd hj (by omega)) (tx_map0 _).symm⟩
/-! atoms -/
/-- X's arrays hold the atoms g in slot j, and are elsewhere as they were -/
def xa_H (j : Nat) (ac ach ast ac0 ach0 ast0 : Nat → Int32) (g : Nat × (Nat → Int32) × (Nat → Int32)) : Prop :=
  ac j = nI g.1 ∧ (∀ i, i < g.1 → ach (j * 12 + i) = g.2.1 i ∧ ast (j * 12 + i) = g.2.2 i) ∧ (∀ i, ¬ i = j → ac i = ac0 i) ∧ (∀ i, (i < j * 12 ∨ j * 12 + 12 ≤ i) → ach i = ach0 i ∧ ast i = ast0 i)
theorem xm_addItem {j : Nat} {c e it : Int32} {post : Int32 → SX → Prop} {g : Nat × (Nat → Int32) × (Nat → Int32)} {ac0 ach0 ast0 : Nat → Int32} (hj : j < 48) (h12 : g.1 ≤ 12) (h01 : ∀ i, g.2.2 i = 0 ∨ g.2.2 i = 1) (H : xa_H j XatomCount XatomChar XatomStarred ac0 ach0 ast0 g)
    (e42 : it = 42 ↔ (e = 0 ∧ c = 42)) (e46 : it = 46 ↔ (e = 0 ∧ c = 46)) (er : it - it / 256 * 256 = c)
    (hg : ∀ g' ac ach ast, rg_s c e g = some g' → xa_H j ac ach ast ac0 ach0 ast0 g' → post 1 (Xquiet, Xfuel, XscriptSize, XinputSize, Xcursor, XitemCount, XtablePresent, XcommandCount, XoutputSize, XpatternSize, XholdSize, XlineNumber, XstepCount, XnextLine, Xpointer, Xsubstituted, XresultSize, Xscript, Xinput, Xitems, Xverb, Xnegated, Xeverywhere, XlabelStart, XlabelSize, Xtarget, XreplacementStart, XreplacementEnd, Xreplacement, Xaddress, XstartAnchor, XendAnchor, ac, ach, ast, Xoutput, Xpattern, Xhold, XactivationLine, Xresult))
    (hb : rg_s c e g = none → ∀ ast, post 0 (Xquiet, Xfuel, XscriptSize, XinputSize, Xcursor, XitemCount, XtablePresent, XcommandCount, XoutputSize, XpatternSize, XholdSize, XlineNumber, XstepCount, XnextLine, Xpointer, Xsubstituted, XresultSize, Xscript, Xinput, Xitems, Xverb, Xnegated, Xeverywhere, XlabelStart, XlabelSize, Xtarget, XreplacementStart, XreplacementEnd, Xreplacement, Xaddress, XstartAnchor, XendAnchor, XatomCount, XatomChar, ast, Xoutput, Xpattern, Xhold, XactivationLine, Xresult)) : wpX_addItem post (Xquiet, Xfuel, XscriptSize, XinputSize, Xcursor, XitemCount, XtablePresent, XcommandCount, XoutputSize, XpatternSize, XholdSize, XlineNumber, XstepCount, XnextLine, Xpointer, Xsubstituted, XresultSize, Xscript, Xinput, Xitems, Xverb, Xnegated, Xeverywhere, XlabelStart, XlabelSize, Xtarget, XreplacementStart, XreplacementEnd, Xreplacement, Xaddress, XstartAnchor, XendAnchor, XatomCount, XatomChar, XatomStarred, Xoutput, Xpattern, Xhold, XactivationLine, Xresult) (nI j) it := by
  obtain ⟨na, ch, st⟩ := g
  obtain ⟨a1, a2, a3, a4⟩ := H
  dsimp only at h12 h01 a1 a2
  unfold wpX_addItem
  refine ⟨pk_in j 48 hj, ?_⟩
  rw [nI_clamp (by omega), a1]
  refine nm_e (nm_r (show nI j * 12 + nI na = nI (j * 12 + na) from by rw [show nI j * 12 = nI (j * 12) from pk_mul j 12, nI_add]) ?_)
  have h57 : ¬ (e = 0 ∧ c = 42 ∧ 0 < na) → wX_addItem_57 post (nI j) it (nI na) (nI (j * 12 + na)) Xquiet Xfuel XscriptSize XinputSize Xcursor XitemCount XtablePresent XcommandCount XoutputSize XpatternSize XholdSize XlineNumber XstepCount XnextLine Xpointer Xsubstituted XresultSize Xscript Xinput Xitems Xverb Xnegated Xeverywhere XlabelStart XlabelSize Xtarget XreplacementStart XreplacementEnd Xreplacement Xaddress XstartAnchor XendAnchor XatomCount XatomChar XatomStarred Xoutput Xpattern Xhold XactivationLine Xresult := by
    intro hn
    refine pk_lt na 12 (fun g12 => ?_) (fun g12 => ?_)
    · have hr : rg_s c e (na, ch, st) = some (na + 1, upd ch na (if e = 0 ∧ c = 46 then -1 else c), upd st na 0) := by
        unfold rg_s
        rw [if_neg hn, if_neg (by dsimp only; omega)]
      have h86 : ∀ v, v = (if e = 0 ∧ c = 46 then -1 else c) → wX_addItem_86 post (nI j) (nI na) (nI (j * 12 + na)) v (nI (j * 12 + na)) Xquiet Xfuel XscriptSize XinputSize Xcursor XitemCount XtablePresent XcommandCount XoutputSize XpatternSize XholdSize XlineNumber XstepCount XnextLine Xpointer Xsubstituted XresultSize Xscript Xinput Xitems Xverb Xnegated Xeverywhere XlabelStart XlabelSize Xtarget XreplacementStart XreplacementEnd Xreplacement Xaddress XstartAnchor XendAnchor XatomCount XatomChar XatomStarred Xoutput Xpattern Xhold XactivationLine Xresult := by
        intro v hv
        refine ⟨pk_in (j * 12 + na) 576 (by omega), nm_e ⟨pk_in (j * 12 + na) 576 (by omega), nm_e ⟨pk_in j 48 hj, nm_e ?_⟩⟩⟩
        rw [nI_clamp (show j * 12 + na < 2 ^ 31 by omega), nI_clamp (show j < 2 ^ 31 by omega)]
        refine hg _ _ _ _ hr ⟨?_, fun i hi => ?_, fun i hi => ?_, fun i hi => ?_⟩
        · rw [pk_us]; exact nI_1 na
        · dsimp only at hi ⊢
          by_cases z : i = na
          · rw [z, pk_us, pk_us, pk_us, pk_us, hv]; exact ⟨rfl, rfl⟩
          · exact ⟨by rw [pk_un (by omega), pk_un z]; exact (a2 i (by omega)).1, by rw [pk_un (by omega), pk_un z]; exact (a2 i (by omega)).2⟩
        · rw [pk_un hi]; exact a3 i hi
        · rw [pk_un (by omega), pk_un (by omega)]; exact a4 i hi
      by_cases z : it = 46
      · exact br_t z (h86 _ (by rw [if_pos (e46.mp z)]))
      · refine br_f z ⟨by decide, ?_⟩
        rw [er]
        exact h86 _ (by rw [if_neg (fun y => z (e46.mpr y))])
    · exact hb (by unfold rg_s; rw [if_neg hn, if_pos (by dsimp only; omega)]) _
  by_cases z : it = 42
  · refine br_t z (pk_le na 0 (fun g0 => h57 (fun y => by omega)) (fun g0 => ?_))
    have hs : nI (j * 12 + na) - 1 = nI (j * 12 + (na - 1)) := by
      obtain ⟨m, rfl⟩ : ∃ m, na = m + 1 := ⟨na - 1, by omega⟩
      exact nI_pred (j * 12 + m)
    rw [hs]
    have hi : vp_in (nI (j * 12 + (na - 1))) 576 := vp_in_nI (by omega) (by omega)
    refine ⟨hi, ?_⟩
    rw [nI_clamp (by omega), (a2 (na - 1) (by omega)).2]
    refine nm_e ⟨hi, nm_e ?_⟩
    have hc : e = 0 ∧ c = 42 ∧ 0 < na := ⟨(e42.mp z).1, (e42.mp z).2, g0⟩
    by_cases w : st (na - 1) = 0
    · refine br_t w ?_
      refine hg (na, ch, upd st (na - 1) 1) _ _ _ (by unfold rg_s; rw [if_pos hc, if_pos w]) ⟨a1, fun i hi => ?_, a3, fun i hi => ?_⟩
      · dsimp only at hi ⊢
        by_cases y : i = na - 1
        · rw [y, pk_us, pk_us]; exact ⟨(a2 (na - 1) (by omega)).1, rfl⟩
        · rw [pk_un (by omega), pk_un y]; exact a2 i hi
      · rw [pk_un (by omega)]; exact a4 i hi
    · refine br_f w ?_
      exact hb (by unfold rg_s; rw [if_pos hc, if_neg w]) _
  · exact br_f z (h57 (fun y => z (e42.mpr ⟨y.1, y.2.1⟩)))
end XT_1
