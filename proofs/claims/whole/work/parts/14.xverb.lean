/-! X's compiler: replacement, s command, verb -/
section XV_1
variable {Xquiet Xfuel XscriptSize XinputSize Xcursor XitemCount XtablePresent XcommandCount XoutputSize XpatternSize XholdSize XlineNumber XstepCount XnextLine Xpointer Xsubstituted XresultSize : Int32} {Xscript Xinput Xitems Xverb Xnegated Xeverywhere XlabelStart XlabelSize Xtarget XreplacementStart XreplacementEnd Xreplacement Xaddress XstartAnchor XendAnchor XatomCount XatomChar XatomStarred Xoutput Xpattern Xhold XactivationLine Xresult : Nat → Int32}
theorem xm_rep16 {L q k n : Nat} {it : Nat → Int32} {post : Int32 → SX → Prop} (hL : L ≤ 128) (hc : ch_ok Xscript L) (hk : k < 16) (htx : tx_n Xscript L q = some n) (hit : ∀ j, j < n → it j = tx_k Xscript (tx_p Xscript q j))
    (hg : ∀ rep, (∀ j, j < n → rep (q + j) = tb_c Xscript (tx_p Xscript q j)) → (∀ i, i < q → rep i = Xreplacement i) → post 1 (Xquiet, Xfuel, nI L, XinputSize, nI (tx_p Xscript q n + 1), nI n, XtablePresent, nI k, XoutputSize, XpatternSize, XholdSize, XlineNumber, XstepCount, XnextLine, Xpointer, Xsubstituted, XresultSize, Xscript, Xinput, it, Xverb, Xnegated, Xeverywhere, XlabelStart, XlabelSize, Xtarget, upd XreplacementStart k (nI q), upd XreplacementEnd k (nI (q + n)), rep, Xaddress, XstartAnchor, XendAnchor, XatomCount, XatomChar, XatomStarred, Xoutput, Xpattern, Xhold, XactivationLine, Xresult)) :
    ∀ f m rep, n - m < f → m ≤ n → (∀ j, j < m → rep (q + j) = tb_c Xscript (tx_p Xscript q j)) → (∀ i, i < q → rep i = Xreplacement i) → wX_readReplacement_16 post (nI q) Xquiet Xfuel (nI L) XinputSize (nI (tx_p Xscript q n + 1)) (nI n) XtablePresent (nI k) XoutputSize XpatternSize XholdSize XlineNumber XstepCount XnextLine Xpointer Xsubstituted XresultSize f (nI m) Xscript Xinput it Xverb Xnegated Xeverywhere XlabelStart XlabelSize Xtarget XreplacementStart XreplacementEnd rep Xaddress XstartAnchor XendAnchor XatomCount XatomChar XatomStarred Xoutput Xpattern Xhold XactivationLine Xresult := by
  have hf := tx_facts n q htx
  have hpn := tx_p_ge Xscript q n
  intro f
  induction f with
  | zero => intro m rep h; omega
  | succ f ih =>
  intro m rep hfu hm h1 h2
  rcases Nat.lt_or_ge m n with z | z
  · obtain ⟨f1, f2, f3, f4⟩ := hf.1 m z
    have f5 : Xscript (tx_p Xscript q m) = 92 → tx_p Xscript q m + 1 < L := fun y => (f4 y).1
    have k38 : tx_k Xscript (tx_p Xscript q m) = 38 ↔ (tx_e Xscript (tx_p Xscript q m) = 0 ∧ tx_c Xscript (tx_p Xscript q m) = 38) := tx_k_eq hc f1 f5 38 (by omega)
    have hi : vp_in (nI m) 128 := pk_in m 128 (by omega)
    refine br_f (nI_ge z (by omega)) ⟨hi, ?_⟩
    rw [nI_clamp (show m < 2 ^ 31 by omega), hit m z]
    have eqm : nI q + nI m = nI (q + m) := nI_add q m
    have hi2 : vp_in (nI (q + m)) 128 := pk_in (q + m) 128 (by omega)
    rw [eqm]
    have nxt : ∀ v, v = tb_c Xscript (tx_p Xscript q m) → wX_readReplacement_16 post (nI q) Xquiet Xfuel (nI L) XinputSize (nI (tx_p Xscript q n + 1)) (nI n) XtablePresent (nI k) XoutputSize XpatternSize XholdSize XlineNumber XstepCount XnextLine Xpointer Xsubstituted XresultSize f (nI (m + 1)) Xscript Xinput it Xverb Xnegated Xeverywhere XlabelStart XlabelSize Xtarget XreplacementStart XreplacementEnd (upd rep (q + m) v) Xaddress XstartAnchor XendAnchor XatomCount XatomChar XatomStarred Xoutput Xpattern Xhold XactivationLine Xresult := by
      intro v hv
      refine ih (m + 1) _ (by omega) (by omega) (fun j hj => ?_) (fun i hi => ?_)
      · by_cases e : j = m
        · rw [e, pk_us, hv]
        · rw [pk_un (by omega)]; exact h1 j (by omega)
      · rw [pk_un (by omega)]; exact h2 i hi
    by_cases w : tx_k Xscript (tx_p Xscript q m) = 38
    · refine br_t w ⟨hi2, nm_e (nm_r (nI_1 m) ?_)⟩
      rw [nI_clamp (show q + m < 2 ^ 31 by omega)]
      exact nxt _ (by unfold tb_c; rw [if_pos (k38.mp w)])
    · refine br_f w ⟨hi, by decide, hi2, nm_e (nm_r (nI_1 m) ?_)⟩
      rw [nI_clamp (show q + m < 2 ^ 31 by omega), tx_k_rem hc f1 f5]
      exact nxt _ (by unfold tb_c; rw [if_neg (fun y => w (k38.mpr y))])
  · have e : m = n := by omega
    subst e
    have hi : vp_in (nI k) 16 := pk_in k 16 hk
    refine br_t (nI_le z (by omega)) ⟨hi, nm_e ⟨hi, nm_e ?_⟩⟩
    rw [nI_clamp (show k < 2 ^ 31 by omega), nI_add]
    exact hg rep h1 h2
theorem xm_readRep {L q k : Nat} {post : Int32 → SX → Prop} (hL : L ≤ 128) (hc : ch_ok Xscript L) (hk : k < 16) (h1 : 1 ≤ q) (hq : q ≤ L)
    (hg : ∀ n it rep, tx_n Xscript L q = some n → (∀ j, j < n → rep (q + j) = tb_c Xscript (tx_p Xscript q j)) → (∀ i, i < q → rep i = Xreplacement i) → post 1 (Xquiet, Xfuel, nI L, XinputSize, nI (tx_p Xscript q n + 1), nI n, XtablePresent, nI k, XoutputSize, XpatternSize, XholdSize, XlineNumber, XstepCount, XnextLine, Xpointer, Xsubstituted, XresultSize, Xscript, Xinput, it, Xverb, Xnegated, Xeverywhere, XlabelStart, XlabelSize, Xtarget, upd XreplacementStart k (nI q), upd XreplacementEnd k (nI (q + n)), rep, Xaddress, XstartAnchor, XendAnchor, XatomCount, XatomChar, XatomStarred, Xoutput, Xpattern, Xhold, XactivationLine, Xresult))
    (hb : tx_n Xscript L q = none → ∀ cu ic it, post 0 (Xquiet, Xfuel, nI L, XinputSize, cu, ic, XtablePresent, nI k, XoutputSize, XpatternSize, XholdSize, XlineNumber, XstepCount, XnextLine, Xpointer, Xsubstituted, XresultSize, Xscript, Xinput, it, Xverb, Xnegated, Xeverywhere, XlabelStart, XlabelSize, Xtarget, XreplacementStart, XreplacementEnd, Xreplacement, Xaddress, XstartAnchor, XendAnchor, XatomCount, XatomChar, XatomStarred, Xoutput, Xpattern, Xhold, XactivationLine, Xresult)) :
    wpX_readReplacement post (Xquiet, Xfuel, nI L, XinputSize, nI q, XitemCount, XtablePresent, nI k, XoutputSize, XpatternSize, XholdSize, XlineNumber, XstepCount, XnextLine, Xpointer, Xsubstituted, XresultSize, Xscript, Xinput, Xitems, Xverb, Xnegated, Xeverywhere, XlabelStart, XlabelSize, Xtarget, XreplacementStart, XreplacementEnd, Xreplacement, Xaddress, XstartAnchor, XendAnchor, XatomCount, XatomChar, XatomStarred, Xoutput, Xpattern, Xhold, XactivationLine, Xresult) := by
  unfold wpX_readReplacement
  refine xm_readText hL hc h1 hq ?_ ?_
  · intro n it htx hit
    exact br_f (by decide) ⟨n + 1, xm_rep16 hL hc hk htx hit (fun rep a b => hg n it rep htx a b) (n + 1) 0 _ (by omega) (by omega) (fun j hj => absurd hj (by omega)) (fun i hi => rfl)⟩
  · intro htx cu ic it
    exact br_t rfl (hb htx _ _ _)
/-- what the s command at q (its '/') lays down for command k -/
theorem xm_readSub {L q k : Nat} {post : Int32 → SX → Prop} (hL : L ≤ 128) (hc : ch_ok Xscript L) (hk : k < 16) (h1 : 1 ≤ q) (hq : q ≤ L)
    (hg : ∀ r it ic ev rst ren rep sa ea ac ach ast, cm_s Xscript L q = some r → (ev k = r.2.2.2.1 ∧ rst k = nI r.2.1 ∧ ren k = nI (r.2.1 + r.2.2.1) ∧ (∀ j, j < r.2.2.1 → rep (r.2.1 + j) = tb_c Xscript (tx_p Xscript r.2.1 j)) ∧ ∃ g, rg_x Xscript L r.1 = some g ∧ tb_R sa ea ac ach ast (k * 3 + 2) g) → (∀ i, ¬ i = k → ev i = Xeverywhere i ∧ rst i = XreplacementStart i ∧ ren i = XreplacementEnd i) → (∀ i, i < q → rep i = Xreplacement i) → xf_A (k * 3 + 2) Xaddress XstartAnchor XendAnchor XatomCount XatomChar XatomStarred Xaddress sa ea ac ach ast → post 1 (Xquiet, Xfuel, nI L, XinputSize, nI r.2.2.2.2, ic, XtablePresent, nI k, XoutputSize, XpatternSize, XholdSize, XlineNumber, XstepCount, XnextLine, Xpointer, Xsubstituted, XresultSize, Xscript, Xinput, it, Xverb, Xnegated, ev, XlabelStart, XlabelSize, Xtarget, rst, ren, rep, Xaddress, sa, ea, ac, ach, ast, Xoutput, Xpattern, Xhold, XactivationLine, Xresult))
    (hb : cm_s Xscript L q = none → ∀ v, xk_p v = (Xquiet, Xfuel, nI L, XinputSize, XtablePresent, nI k, XoutputSize, XpatternSize, XholdSize, XlineNumber, XstepCount, Xscript, Xinput, Xoutput, Xpattern, Xhold) → post 0 v) :
    wpX_readSubstitution post (Xquiet, Xfuel, nI L, XinputSize, nI q, XitemCount, XtablePresent, nI k, XoutputSize, XpatternSize, XholdSize, XlineNumber, XstepCount, XnextLine, Xpointer, Xsubstituted, XresultSize, Xscript, Xinput, Xitems, Xverb, Xnegated, Xeverywhere, XlabelStart, XlabelSize, Xtarget, XreplacementStart, XreplacementEnd, Xreplacement, Xaddress, XstartAnchor, XendAnchor, XatomCount, XatomChar, XatomStarred, Xoutput, Xpattern, Xhold, XactivationLine, Xresult) := by
  unfold wpX_readSubstitution
  refine xm_take hL hq ?_
  by_cases hs : q < L ∧ Xscript q = 47
  · rw [xp_lo hs.1]
    have cs : cm_s Xscript L q = (rg_x Xscript L (q + 1)).bind (fun r => (tx_n Xscript L r.1).map (fun n =>
      (q + 1, r.1, n, (if tx_p Xscript r.1 n + 1 < L ∧ Xscript (tx_p Xscript r.1 n + 1) = 103 then (1 : Int32) else 0), (if tx_p Xscript r.1 n + 1 < L ∧ Xscript (tx_p Xscript r.1 n + 1) = 103 then tx_p Xscript r.1 n + 2 else tx_p Xscript r.1 n + 1)))) := by
      unfold cm_s
      rw [if_pos hs]
    refine br_t hs.2 ?_
    have es : nI k * 3 + 2 = nI (k * 3 + 2) := by rw [show nI k * 3 = nI (k * 3) from pk_mul k 3]; exact nI_add (k * 3) 2
    rw [es]
    refine xm_readRegex hL hc (by omega) (by omega) (by omega) ?_ ?_
    · intro g it ic sa ea ac ach ast hr hR hF
      have fr := rg_x_f hr
      rw [hr] at cs
      dsimp only [Option.bind] at cs
      refine br_f (by decide) ?_
      refine xm_readRep hL hc hk (by omega) fr.2 ?_ ?_
      · intro n it' rep htx h2 h3
        have ft := tx_facts n g.1 htx
        rw [htx] at cs
        refine br_f (by decide) ?_
        refine xm_peek hL (by omega) ?_
        have hi : vp_in (nI k) 16 := pk_in k 16 hk
        have ck : (nI k).toNatClampNeg = k := nI_clamp (by omega)
        by_cases h103 : tx_p Xscript g.1 n + 1 < L ∧ Xscript (tx_p Xscript g.1 n + 1) = 103
        · rw [xp_lo h103.1]
          have cs' : cm_s Xscript L q = some (q + 1, g.1, n, 1, tx_p Xscript g.1 n + 2) := by
            rw [cs]
            show some (_, _, _, _, _) = _
            rw [if_pos h103, if_pos h103]
          refine br_t h103.2 ⟨hi, nm_e ⟨hi, ?_⟩⟩
          rw [ck, pk_us]
          refine br_f (by decide) (nm_r (nI_1 _) ?_)
          exact hg _ _ _ _ _ _ _ _ _ _ _ _ cs' ⟨pk_us, pk_us, pk_us, h2, g, hr, hR⟩ (fun i hi => ⟨pk_un hi, pk_un hi, pk_un hi⟩) (fun i hi => h3 i (by omega)) hF
        · have cs' : cm_s Xscript L q = some (q + 1, g.1, n, 0, tx_p Xscript g.1 n + 1) := by
            rw [cs]
            show some (_, _, _, _, _) = _
            rw [if_neg h103, if_neg h103]
          refine br_f ?_ ⟨hi, nm_e ⟨hi, ?_⟩⟩
          · by_cases y : tx_p Xscript g.1 n + 1 < L
            · rw [xp_lo y]; exact fun w => h103 ⟨y, w⟩
            · rw [xp_hi (by omega)]; decide
          · rw [ck, pk_us]
            refine br_t rfl ?_
            exact hg _ _ _ _ _ _ _ _ _ _ _ _ cs' ⟨pk_us, pk_us, pk_us, h2, g, hr, hR⟩ (fun i hi => ⟨pk_un hi, pk_un hi, pk_un hi⟩) (fun i hi => h3 i (by omega)) hF
      · intro htx cu ic' it'
        rw [htx] at cs
        exact br_t rfl (hb cs _ rfl)
    · intro hr cu ic it sa ea ac ach ast
      rw [hr] at cs
      exact br_t rfl (hb cs _ rfl)
  · refine br_f ?_ (hb (by unfold cm_s; rw [if_neg hs]) _ rfl)
    by_cases y : q < L
    · rw [xp_lo y]; exact fun w => hs ⟨y, w⟩
    · rw [xp_hi (by omega)]; decide
/-- what the verb at q lays down for command k -/
def xv_H (s : Nat → Int32) (L k q : Nat) (b : (Nat × Nat) × (Nat × Nat × Nat × Int32) × Nat) (ev lst lsz rst ren rep adr sa ea ac ach ast ev' lst' lsz' rst' ren' rep' sa' ea' ac' ach' ast' : Nat → Int32) : Prop :=
  (s q = 115 → ev' k = b.2.1.2.2.2 ∧ rst' k = nI b.2.1.2.1 ∧ ren' k = nI (b.2.1.2.1 + b.2.1.2.2.1) ∧ (∀ j, j < b.2.1.2.2.1 → rep' (b.2.1.2.1 + j) = tb_c s (tx_p s b.2.1.2.1 j)) ∧ ∃ g, rg_x s L b.2.1.1 = some g ∧ tb_R sa' ea' ac' ach' ast' (k * 3 + 2) g)
  ∧ ((s q = 58 ∨ s q = 98 ∨ s q = 116) → lst' k = nI b.1.1 ∧ lsz' k = nI b.1.2)
  ∧ (∀ i, ¬ i = k → ev' i = ev i ∧ lst' i = lst i ∧ lsz' i = lsz i ∧ rst' i = rst i ∧ ren' i = ren i) ∧ (∀ i, i < q → rep' i = rep i)
  ∧ xf_A (k * 3 + 2) adr sa ea ac ach ast adr sa' ea' ac' ach' ast'
theorem xm_verb {L q k na : Nat} {post : Int32 → SX → Prop} (hL : L ≤ 128) (hc : ch_ok Xscript L) (hk : k < 16) (hq : q ≤ L) (hna : Xaddress (k * 3) = 0 ↔ na = 0)
    (hg : ∀ b it ic ev lst lsz rst ren rep sa ea ac ach ast, cm_b Xscript L na q = some b → q < L → xv_H Xscript L k q b Xeverywhere XlabelStart XlabelSize XreplacementStart XreplacementEnd Xreplacement Xaddress XstartAnchor XendAnchor XatomCount XatomChar XatomStarred ev lst lsz rst ren rep sa ea ac ach ast → post 1 (Xquiet, Xfuel, nI L, XinputSize, nI b.2.2, ic, XtablePresent, nI k, XoutputSize, XpatternSize, XholdSize, XlineNumber, XstepCount, XnextLine, Xpointer, Xsubstituted, XresultSize, Xscript, Xinput, it, upd Xverb k (Xscript q), Xnegated, ev, lst, lsz, Xtarget, rst, ren, rep, Xaddress, sa, ea, ac, ach, ast, Xoutput, Xpattern, Xhold, XactivationLine, Xresult))
    (hb : cm_b Xscript L na q = none → ∀ v, xk_p v = (Xquiet, Xfuel, nI L, XinputSize, XtablePresent, nI k, XoutputSize, XpatternSize, XholdSize, XlineNumber, XstepCount, Xscript, Xinput, Xoutput, Xpattern, Xhold) → post 0 v) :
    wpX_readVerb post (Xquiet, Xfuel, nI L, XinputSize, nI q, XitemCount, XtablePresent, nI k, XoutputSize, XpatternSize, XholdSize, XlineNumber, XstepCount, XnextLine, Xpointer, Xsubstituted, XresultSize, Xscript, Xinput, Xitems, Xverb, Xnegated, Xeverywhere, XlabelStart, XlabelSize, Xtarget, XreplacementStart, XreplacementEnd, Xreplacement, Xaddress, XstartAnchor, XendAnchor, XatomCount, XatomChar, XatomStarred, Xoutput, Xpattern, Xhold, XactivationLine, Xresult) := by
  unfold wpX_readVerb
  refine xm_take hL hq ?_
  refine ⟨pk_in k 16 hk, nm_e ?_⟩
  have ck : (nI k).toNatClampNeg = k := nI_clamp (by omega)
  rw [ck]
  have fA : xf_A (k * 3 + 2) Xaddress XstartAnchor XendAnchor XatomCount XatomChar XatomStarred Xaddress XstartAnchor XendAnchor XatomCount XatomChar XatomStarred := ⟨fun i hi => ⟨rfl, rfl, rfl, rfl⟩, fun i hi => ⟨rfl, rfl⟩⟩
  rcases Nat.lt_or_ge q L with hqL | hqL
  · rw [xp_lo hqL]
    have ok : cm_v (Xscript q) = true → ¬ Xscript q = 115 → ¬ (Xscript q = 58 ∨ Xscript q = 98 ∨ Xscript q = 116) → post 1 (Xquiet, Xfuel, nI L, XinputSize, nI (q + 1), XitemCount, XtablePresent, nI k, XoutputSize, XpatternSize, XholdSize, XlineNumber, XstepCount, XnextLine, Xpointer, Xsubstituted, XresultSize, Xscript, Xinput, Xitems, upd Xverb k (Xscript q), Xnegated, Xeverywhere, XlabelStart, XlabelSize, Xtarget, XreplacementStart, XreplacementEnd, Xreplacement, Xaddress, XstartAnchor, XendAnchor, XatomCount, XatomChar, XatomStarred, Xoutput, Xpattern, Xhold, XactivationLine, Xresult) := by
      intro hv h115 hl
      refine hg ((0, 0), (0, 0, 0, 0), q + 1) _ _ _ _ _ _ _ _ _ _ _ _ _ ?_ hqL ⟨fun y => absurd y h115, fun y => absurd y hl, fun i hi => ⟨rfl, rfl, rfl, rfl, rfl⟩, fun i hi => rfl, fA⟩
      unfold cm_b
      rw [if_neg (by omega), if_neg h115, if_neg hl, if_pos hv]
    have lab : ∀ least : Nat, least ≤ 1 → (Xscript q = 58 ∨ Xscript q = 98 ∨ Xscript q = 116) → ¬ Xscript q = 115 → (Xscript q = 58 → na = 0 ∧ least = 1) → (¬ Xscript q = 58 → least = 0) → ∀ P : Int32 → SX → Prop, (∀ v, post 1 v → P 1 v) → (∀ v, post 0 v → P 0 v) → wpX_readLabel P (Xquiet, Xfuel, nI L, XinputSize, nI (q + 1), XitemCount, XtablePresent, nI k, XoutputSize, XpatternSize, XholdSize, XlineNumber, XstepCount, XnextLine, Xpointer, Xsubstituted, XresultSize, Xscript, Xinput, Xitems, upd Xverb k (Xscript q), Xnegated, Xeverywhere, XlabelStart, XlabelSize, Xtarget, XreplacementStart, XreplacementEnd, Xreplacement, Xaddress, XstartAnchor, XendAnchor, XatomCount, XatomChar, XatomStarred, Xoutput, Xpattern, Xhold, XactivationLine, Xresult) (nI least) := by
      intro least hle hl h115 h58 hn58 P p1 p0
      have cb : cm_b Xscript L na q = (if (Xscript q = 58 ∧ 0 < na) ∨ 8 < cm_le Xscript L (q + 1) - cm_ls Xscript L (q + 1) ∨ (Xscript q = 58 ∧ cm_le Xscript L (q + 1) - cm_ls Xscript L (q + 1) < 1) then none
     else some ((cm_ls Xscript L (q + 1), cm_le Xscript L (q + 1) - cm_ls Xscript L (q + 1)), (0, 0, 0, 0), cm_le Xscript L (q + 1))) := by
        unfold cm_b
        rw [if_neg (by omega), if_neg h115, if_pos hl]
      refine xm_readLabel hL hk (by omega) hle ?_ ?_
      · intro g8 gl
        refine p1 _ (hg ((cm_ls Xscript L (q + 1), cm_le Xscript L (q + 1) - cm_ls Xscript L (q + 1)), (0, 0, 0, 0), cm_le Xscript L (q + 1)) _ _ _ _ _ _ _ _ _ _ _ _ _ ?_ hqL ⟨fun y => absurd y h115, fun y => ⟨pk_us, pk_us⟩, fun i hi => ⟨rfl, pk_un hi, pk_un hi, rfl, rfl⟩, fun i hi => rfl, fA⟩)
        rw [cb, if_neg]
        intro y
        rcases y with y | y | y
        · have := h58 y.1; omega
        · omega
        · have := h58 y.1; omega
      · intro gb cu lst lsz
        refine p0 _ (hb ?_ _ rfl)
        rw [cb, if_pos]
        by_cases z : Xscript q = 58
        · have := h58 z
          rcases gb with y | y
          · exact Or.inr (Or.inl y)
          · exact Or.inr (Or.inr ⟨z, by omega⟩)
        · have := hn58 z
          rcases gb with y | y
          · exact Or.inr (Or.inl y)
          · omega
    have bt : ∀ c : Int32, (c = 98 ∨ c = 116) → Xscript q = c → wX_readVerb_159 post Xquiet Xfuel (nI L) XinputSize (nI (q + 1)) XitemCount XtablePresent (nI k) XoutputSize XpatternSize XholdSize XlineNumber XstepCount XnextLine Xpointer Xsubstituted XresultSize Xscript Xinput Xitems (upd Xverb k (Xscript q)) Xnegated Xeverywhere XlabelStart XlabelSize Xtarget XreplacementStart XreplacementEnd Xreplacement Xaddress XstartAnchor XendAnchor XatomCount XatomChar XatomStarred Xoutput Xpattern Xhold XactivationLine Xresult := by
      intro c hcc hx
      have n58 : ¬ Xscript q = 58 := by rw [hx]; rcases hcc with rfl | rfl <;> decide
      have n115 : ¬ Xscript q = 115 := by rw [hx]; rcases hcc with rfl | rfl <;> decide
      exact lab 0 (by omega) (by rw [hx]; exact Or.inr hcc) n115 (fun y => absurd y n58) (fun _ => rfl) (fun r_93 u => match u with | (Xquiet1, Xfuel1, XscriptSize1, XinputSize1, Xcursor1, XitemCount1, XtablePresent1, XcommandCount1, XoutputSize1, XpatternSize1, XholdSize1, XlineNumber1, XstepCount1, XnextLine1, Xpointer1, Xsubstituted1, XresultSize1, Xscript1, Xinput1, Xitems1, Xverb1, Xnegated1, Xeverywhere1, XlabelStart1, XlabelSize1, Xtarget1, XreplacementStart1, XreplacementEnd1, Xreplacement1, Xaddress1, XstartAnchor1, XendAnchor1, XatomCount1, XatomChar1, XatomStarred1, Xoutput1, Xpattern1, Xhold1, XactivationLine1, Xresult1) => (narrow .boolean (.int r_93) = .int r_93 ∧ (post r_93 (Xquiet1, Xfuel1, XscriptSize1, XinputSize1, Xcursor1, XitemCount1, XtablePresent1, XcommandCount1, XoutputSize1, XpatternSize1, XholdSize1, XlineNumber1, XstepCount1, XnextLine1, Xpointer1, Xsubstituted1, XresultSize1, Xscript1, Xinput1, Xitems1, Xverb1, Xnegated1, Xeverywhere1, XlabelStart1, XlabelSize1, Xtarget1, XreplacementStart1, XreplacementEnd1, Xreplacement1, Xaddress1, XstartAnchor1, XendAnchor1, XatomCount1, XatomChar1, XatomStarred1, Xoutput1, Xpattern1, Xhold1, XactivationLine1, Xresult1)))) (fun v h => ⟨rfl, h⟩) (fun v h => ⟨rfl, h⟩)
    have nl : ∀ c : Int32, Xscript q = c → cm_v c = true → ¬ c = 115 → ¬ (c = 58 ∨ c = 98 ∨ c = 116) → post 1 (Xquiet, Xfuel, nI L, XinputSize, nI (q + 1), XitemCount, XtablePresent, nI k, XoutputSize, XpatternSize, XholdSize, XlineNumber, XstepCount, XnextLine, Xpointer, Xsubstituted, XresultSize, Xscript, Xinput, Xitems, upd Xverb k (Xscript q), Xnegated, Xeverywhere, XlabelStart, XlabelSize, Xtarget, XreplacementStart, XreplacementEnd, Xreplacement, Xaddress, XstartAnchor, XendAnchor, XatomCount, XatomChar, XatomStarred, Xoutput, Xpattern, Xhold, XactivationLine, Xresult) := fun c hx h1 h2 h3 => ok (by rw [hx]; exact h1) (by rw [hx]; exact h2) (by rw [hx]; exact h3)
    refine br_c (fun h58 => ?_) (fun h58 => br_c (fun h => nl 71 h (by decide) (by decide) (by decide)) (fun h71 => br_c (fun h => nl 72 h (by decide) (by decide) (by decide)) (fun h72 => br_c (fun h => nl 78 h (by decide) (by decide) (by decide)) (fun h78 => br_c (fun h => bt 98 (Or.inl rfl) h) (fun h98 => br_c (fun h => nl 100 h (by decide) (by decide) (by decide)) (fun h100 => br_c (fun h => nl 103 h (by decide) (by decide) (by decide)) (fun h103 => br_c (fun h => nl 104 h (by decide) (by decide) (by decide)) (fun h104 => br_c (fun h => nl 112 h (by decide) (by decide) (by decide)) (fun h112 => br_c (fun h115 => ?_) (fun h115 => br_c (fun h => bt 116 (Or.inr rfl) h) (fun h116 => br_c (fun h => nl 120 h (by decide) (by decide) (by decide)) (fun h120 => ?_))))))))))))
    · have e3 : nI k * 3 = nI (k * 3) := pk_mul k 3
      rw [e3]
      refine ⟨pk_in (k * 3) 48 (by omega), ?_⟩
      rw [nI_clamp (by omega)]
      have n115 : ¬ Xscript q = 115 := by rw [h58]; decide
      refine br_c (fun h0 => ?_) (fun h0 => ?_)
      · exact lab 1 (by omega) (Or.inl h58) n115 (fun _ => ⟨hna.mp h0, rfl⟩) (fun y => absurd h58 y) (fun r_47 u => match u with | (Xquiet1, Xfuel1, XscriptSize1, XinputSize1, Xcursor1, XitemCount1, XtablePresent1, XcommandCount1, XoutputSize1, XpatternSize1, XholdSize1, XlineNumber1, XstepCount1, XnextLine1, Xpointer1, Xsubstituted1, XresultSize1, Xscript1, Xinput1, Xitems1, Xverb1, Xnegated1, Xeverywhere1, XlabelStart1, XlabelSize1, Xtarget1, XreplacementStart1, XreplacementEnd1, Xreplacement1, Xaddress1, XstartAnchor1, XendAnchor1, XatomCount1, XatomChar1, XatomStarred1, Xoutput1, Xpattern1, Xhold1, XactivationLine1, Xresult1) => (((r_47 = 0 → (post 0 (Xquiet1, Xfuel1, XscriptSize1, XinputSize1, Xcursor1, XitemCount1, XtablePresent1, XcommandCount1, XoutputSize1, XpatternSize1, XholdSize1, XlineNumber1, XstepCount1, XnextLine1, Xpointer1, Xsubstituted1, XresultSize1, Xscript1, Xinput1, Xitems1, Xverb1, Xnegated1, Xeverywhere1, XlabelStart1, XlabelSize1, Xtarget1, XreplacementStart1, XreplacementEnd1, Xreplacement1, Xaddress1, XstartAnchor1, XendAnchor1, XatomCount1, XatomChar1, XatomStarred1, Xoutput1, Xpattern1, Xhold1, XactivationLine1, Xresult1))) ∧ (¬ r_47 = 0 → (post 1 (Xquiet1, Xfuel1, XscriptSize1, XinputSize1, Xcursor1, XitemCount1, XtablePresent1, XcommandCount1, XoutputSize1, XpatternSize1, XholdSize1, XlineNumber1, XstepCount1, XnextLine1, Xpointer1, Xsubstituted1, XresultSize1, Xscript1, Xinput1, Xitems1, Xverb1, Xnegated1, Xeverywhere1, XlabelStart1, XlabelSize1, Xtarget1, XreplacementStart1, XreplacementEnd1, Xreplacement1, Xaddress1, XstartAnchor1, XendAnchor1, XatomCount1, XatomChar1, XatomStarred1, Xoutput1, Xpattern1, Xhold1, XactivationLine1, Xresult1)))))) (fun v h => br_f (by decide) h) (fun v h => br_t rfl h)
      · have hp : 0 < na := by
          rcases Nat.eq_zero_or_pos na with y | y
          · exact absurd (hna.mpr y) h0
          · exact y
        refine hb ?_ _ rfl
        unfold cm_b
        rw [if_neg (by omega), if_neg n115, if_pos (Or.inl h58), if_pos (Or.inl ⟨h58, hp⟩)]
    · have cb : cm_b Xscript L na q = (cm_s Xscript L (q + 1)).map (fun r => ((0, 0), (r.1, r.2.1, r.2.2.1, r.2.2.2.1), r.2.2.2.2)) := by
        unfold cm_b
        rw [if_neg (by omega), if_pos h115]
      have nl3 : ¬ (Xscript q = 58 ∨ Xscript q = 98 ∨ Xscript q = 116) := fun y => by
        rcases y with y | y | y
        · exact h58 y
        · exact h98 y
        · rw [h115] at y; exact absurd y (by decide)
      refine xm_readSub hL hc hk (by omega) (by omega) ?_ ?_
      · intro r it ic ev rst ren rep sa ea ac ach ast hr h1 h2 h3 h4
        refine ⟨rfl, ?_⟩
        rw [hr] at cb
        exact hg _ _ _ _ _ _ _ _ _ _ _ _ _ _ cb hqL ⟨fun _ => h1, fun y => absurd y nl3, fun i hi => ⟨(h2 i hi).1, rfl, rfl, (h2 i hi).2.1, (h2 i hi).2.2⟩, fun i hi => h3 i (by omega), h4⟩
      · intro hr v hv
        rw [hr] at cb
        obtain ⟨Xquiet1, Xfuel1, XscriptSize1, XinputSize1, Xcursor1, XitemCount1, XtablePresent1, XcommandCount1, XoutputSize1, XpatternSize1, XholdSize1, XlineNumber1, XstepCount1, XnextLine1, Xpointer1, Xsubstituted1, XresultSize1, Xscript1, Xinput1, Xitems1, Xverb1, Xnegated1, Xeverywhere1, XlabelStart1, XlabelSize1, Xtarget1, XreplacementStart1, XreplacementEnd1, Xreplacement1, Xaddress1, XstartAnchor1, XendAnchor1, XatomCount1, XatomChar1, XatomStarred1, Xoutput1, Xpattern1, Xhold1, XactivationLine1, Xresult1⟩ := v
        exact ⟨rfl, hb cb _ hv⟩
    · refine hb ?_ _ rfl
      unfold cm_b
      rw [if_neg (by omega), if_neg h115, if_neg (fun y => by
        rcases y with y | y | y
        · exact h58 y
        · exact h98 y
        · exact h116 y), if_neg]
      intro y
      rcases of_decide_eq_true y with y | y | y | y | y | y | y | y
      · exact h100 y
      · exact h112 y
      · exact h78 y
      · exact h104 y
      · exact h72 y
      · exact h103 y
      · exact h71 y
      · exact h120 y
  · rw [xp_hi hqL]
    have cb : cm_b Xscript L na q = none := by unfold cm_b; rw [if_pos hqL]
    exact br_f (by decide) (br_f (by decide) (br_f (by decide) (br_f (by decide) (br_f (by decide) (br_f (by decide) (br_f (by decide) (br_f (by decide) (br_f (by decide) (br_f (by decide) (br_f (by decide) (br_f (by decide) (hb cb _ rfl))))))))))))
end XV_1
