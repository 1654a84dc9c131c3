/-! X's compiler: regexes, numbers, addresses -/
section XA_1
variable {Xquiet Xfuel XscriptSize XinputSize Xcursor XitemCount XtablePresent XcommandCount XoutputSize XpatternSize XholdSize XlineNumber XstepCount XnextLine Xpointer Xsubstituted XresultSize : Int32} {Xscript Xinput Xitems Xverb Xnegated Xeverywhere XlabelStart XlabelSize Xtarget XreplacementStart XreplacementEnd Xreplacement Xaddress XstartAnchor XendAnchor XatomCount XatomChar XatomStarred Xoutput Xpattern Xhold XactivationLine Xresult : Nat → Int32}
/-- only slot j has changed -/
def xf_A (j : Nat) (adr sa ea ac ach ast adr' sa' ea' ac' ach' ast' : Nat → Int32) : Prop :=
  (∀ i, ¬ i = j → adr' i = adr i ∧ sa' i = sa i ∧ ea' i = ea i ∧ ac' i = ac i) ∧ (∀ i, (i < j * 12 ∨ j * 12 + 12 ≤ i) → ach' i = ach i ∧ ast' i = ast i)
theorem xm_rx103 {L q j n : Nat} {it sa ea : Nat → Int32} {post : Int32 → SX → Prop} (hL : L ≤ 128) (hc : ch_ok Xscript L) (hj : j < 48) (htx : tx_n Xscript L q = some n) (h1 : 1 ≤ q) (hn : 0 < n) (hit : ∀ i, i < n → it i = tx_k Xscript (tx_p Xscript q i))
    (hsa : sa j = nI (rg_A Xscript q)) (hea : ea j = nI (rg_B Xscript q n)) (hfr : ∀ i, ¬ i = j → sa i = XstartAnchor i ∧ ea i = XendAnchor i)
    (hg : ∀ g it ic sa ea ac ach ast, rg_x Xscript L q = some g → tb_R sa ea ac ach ast j g → xf_A j Xaddress XstartAnchor XendAnchor XatomCount XatomChar XatomStarred Xaddress sa ea ac ach ast → post 1 (Xquiet, Xfuel, nI L, XinputSize, nI g.1, ic, XtablePresent, XcommandCount, XoutputSize, XpatternSize, XholdSize, XlineNumber, XstepCount, XnextLine, Xpointer, Xsubstituted, XresultSize, Xscript, Xinput, it, Xverb, Xnegated, Xeverywhere, XlabelStart, XlabelSize, Xtarget, XreplacementStart, XreplacementEnd, Xreplacement, Xaddress, sa, ea, ac, ach, ast, Xoutput, Xpattern, Xhold, XactivationLine, Xresult))
    (hb : rg_x Xscript L q = none → ∀ cu ic it sa ea ac ach ast, post 0 (Xquiet, Xfuel, nI L, XinputSize, cu, ic, XtablePresent, XcommandCount, XoutputSize, XpatternSize, XholdSize, XlineNumber, XstepCount, XnextLine, Xpointer, Xsubstituted, XresultSize, Xscript, Xinput, it, Xverb, Xnegated, Xeverywhere, XlabelStart, XlabelSize, Xtarget, XreplacementStart, XreplacementEnd, Xreplacement, Xaddress, sa, ea, ac, ach, ast, Xoutput, Xpattern, Xhold, XactivationLine, Xresult)) :
    ∀ f m ac ach ast g, n - rg_B Xscript q n - (rg_A Xscript q + m) < f → rg_A Xscript q + m ≤ n - rg_B Xscript q n → rg_f Xscript q (rg_A Xscript q) m = some g → xa_H j ac ach ast (upd XatomCount j 0) XatomChar XatomStarred g →
      wX_readRegex_103 post (nI j) (nI (n - rg_B Xscript q n)) f (nI (rg_A Xscript q + m)) Xquiet Xfuel (nI L) XinputSize (nI (tx_p Xscript q n + 1)) (nI n) XtablePresent XcommandCount XoutputSize XpatternSize XholdSize XlineNumber XstepCount XnextLine Xpointer Xsubstituted XresultSize Xscript Xinput it Xverb Xnegated Xeverywhere XlabelStart XlabelSize Xtarget XreplacementStart XreplacementEnd Xreplacement Xaddress sa ea ac ach ast Xoutput Xpattern Xhold XactivationLine Xresult := by
  have hf := tx_facts n q htx
  have hpn := tx_p_ge Xscript q n
  intro f
  induction f with
  | zero => intro m ac ach ast g h; omega
  | succ f ih =>
  intro m ac ach ast g hfu hm hrg H
  rcases Nat.lt_or_ge (rg_A Xscript q + m) (n - rg_B Xscript q n) with z | z
  · have hB := rg_B1 Xscript q n
    refine br_f (nI_ge z (by omega)) ⟨vp_in_nI (by omega) (by omega), ?_⟩
    rw [nI_clamp (by omega), hit _ (by omega)]
    obtain ⟨f1, f2, f3, f4⟩ := hf.1 (rg_A Xscript q + m) (by omega)
    have f5 : Xscript (tx_p Xscript q (rg_A Xscript q + m)) = 92 → tx_p Xscript q (rg_A Xscript q + m) + 1 < L := fun y => (f4 y).1
    refine xm_addItem (c := tx_c Xscript (tx_p Xscript q (rg_A Xscript q + m))) (e := tx_e Xscript (tx_p Xscript q (rg_A Xscript q + m))) hj (rg_le12 _ _ hrg).1 (rg_le12 _ _ hrg).2 H (tx_k_eq hc f1 f5 42 (by omega)) (tx_k_eq hc f1 f5 46 (by omega)) (tx_k_rem hc f1 f5) ?_ ?_
    · intro g' ac' ach' ast' hs H'
      refine br_f (by decide) (nm_r (nI_1 _) ?_)
      exact ih (m + 1) ac' ach' ast' g' (by omega) (by omega) (by rw [rg_f, hrg]; exact hs) H'
    · intro hs ast'
      refine br_t rfl ?_
      refine hb ?_ _ _ _ _ _ _ _ _
      have e : rg_f Xscript q (rg_A Xscript q) (m + 1) = none := by rw [rg_f, hrg]; exact hs
      have e2 := rg_none e (n - rg_B Xscript q n - rg_A Xscript q - (m + 1))
      rw [show m + 1 + (n - rg_B Xscript q n - rg_A Xscript q - (m + 1)) = n - rg_B Xscript q n - rg_A Xscript q by omega] at e2
      unfold rg_x
      rw [htx]
      dsimp only
      rw [if_neg (by omega), e2]
  · refine br_t (nI_le z (by omega)) ?_
    have e : m = n - rg_B Xscript q n - rg_A Xscript q := by omega
    rw [e] at hrg
    obtain ⟨a1, a2, a3, a4⟩ := H
    have hx : rg_x Xscript L q = some (tx_p Xscript q n + 1, rg_A Xscript q, rg_B Xscript q n, g.1, g.2.1, g.2.2) := by
      unfold rg_x
      rw [htx]
      dsimp only
      rw [if_neg (by omega), hrg]
    refine hg _ _ _ _ _ _ _ _ hx ⟨hsa, hea, a1, a2⟩ ⟨fun i hi => ?_, fun i hi => a4 i hi⟩
    have := a3 i hi
    rw [pk_un hi] at this
    exact ⟨rfl, (hfr i hi).1, (hfr i hi).2, this⟩
theorem xm_readRegex {L q j : Nat} {post : Int32 → SX → Prop} (hL : L ≤ 128) (hc : ch_ok Xscript L) (hj : j < 48) (h1 : 1 ≤ q) (hq : q ≤ L)
    (hg : ∀ g it ic sa ea ac ach ast, rg_x Xscript L q = some g → tb_R sa ea ac ach ast j g → xf_A j Xaddress XstartAnchor XendAnchor XatomCount XatomChar XatomStarred Xaddress sa ea ac ach ast → post 1 (Xquiet, Xfuel, nI L, XinputSize, nI g.1, ic, XtablePresent, XcommandCount, XoutputSize, XpatternSize, XholdSize, XlineNumber, XstepCount, XnextLine, Xpointer, Xsubstituted, XresultSize, Xscript, Xinput, it, Xverb, Xnegated, Xeverywhere, XlabelStart, XlabelSize, Xtarget, XreplacementStart, XreplacementEnd, Xreplacement, Xaddress, sa, ea, ac, ach, ast, Xoutput, Xpattern, Xhold, XactivationLine, Xresult))
    (hb : rg_x Xscript L q = none → ∀ cu ic it sa ea ac ach ast, post 0 (Xquiet, Xfuel, nI L, XinputSize, cu, ic, XtablePresent, XcommandCount, XoutputSize, XpatternSize, XholdSize, XlineNumber, XstepCount, XnextLine, Xpointer, Xsubstituted, XresultSize, Xscript, Xinput, it, Xverb, Xnegated, Xeverywhere, XlabelStart, XlabelSize, Xtarget, XreplacementStart, XreplacementEnd, Xreplacement, Xaddress, sa, ea, ac, ach, ast, Xoutput, Xpattern, Xhold, XactivationLine, Xresult)) :
    wpX_readRegex post (Xquiet, Xfuel, nI L, XinputSize, nI q, XitemCount, XtablePresent, XcommandCount, XoutputSize, XpatternSize, XholdSize, XlineNumber, XstepCount, XnextLine, Xpointer, Xsubstituted, XresultSize, Xscript, Xinput, Xitems, Xverb, Xnegated, Xeverywhere, XlabelStart, XlabelSize, Xtarget, XreplacementStart, XreplacementEnd, Xreplacement, Xaddress, XstartAnchor, XendAnchor, XatomCount, XatomChar, XatomStarred, Xoutput, Xpattern, Xhold, XactivationLine, Xresult) (nI j) := by
  unfold wpX_readRegex
  refine xm_readText hL hc h1 hq ?_ ?_
  · intro n it htx hit
    refine br_f (by decide) ?_
    have hf := tx_facts n q htx
    have hpn := tx_p_ge Xscript q n
    by_cases hn : n = 0
    · refine br_t (by rw [hn]; rfl) ?_
      exact hb (by unfold rg_x; rw [htx]; dsimp only; rw [if_pos hn]) _ _ _ _ _ _ _ _
    · refine br_f (nI_ne0 (by omega) (by omega)) ?_
      have hvj : vp_in (nI j) 48 := pk_in j 48 hj
      have cj : (nI j).toNatClampNeg = j := nI_clamp (by omega)
      have hAB := rg_AB (s := Xscript) (q := q) (n := n) (by omega)
      have hA1 := rg_A1 Xscript q
      have hB1 := rg_B1 Xscript q n
      obtain ⟨f1, f2, f3, f4⟩ := hf.1 0 (by omega)
      have k0 : it 0 = 94 ↔ (tx_e Xscript q = 0 ∧ tx_c Xscript q = 94) := by
        rw [hit 0 (by omega)]
        exact tx_k_eq hc f1 (fun y => (f4 y).1) 94 (by omega)
      obtain ⟨e1, e2, e3, e4⟩ := hf.1 (n - 1) (by omega)
      have kn : it (n - 1) = 36 ↔ (tx_e Xscript (tx_p Xscript q (n - 1)) = 0 ∧ tx_c Xscript (tx_p Xscript q (n - 1)) = 36) := by
        rw [hit (n - 1) (by omega)]
        exact tx_k_eq hc e1 (fun y => (e4 y).1) 36 (by omega)
      have h80 : ∀ sa : Nat → Int32, sa j = nI (rg_A Xscript q) → (∀ i, ¬ i = j → sa i = XstartAnchor i) → wX_readRegex_80 post (nI j) (nI (rg_A Xscript q)) (nI n) (nI (rg_B Xscript q n)) (nI j) Xquiet Xfuel (nI L) XinputSize (nI (tx_p Xscript q n + 1)) (nI n) XtablePresent XcommandCount XoutputSize XpatternSize XholdSize XlineNumber XstepCount XnextLine Xpointer Xsubstituted XresultSize Xscript Xinput it Xverb Xnegated Xeverywhere XlabelStart XlabelSize Xtarget XreplacementStart XreplacementEnd Xreplacement Xaddress sa XendAnchor XatomCount XatomChar XatomStarred Xoutput Xpattern Xhold XactivationLine Xresult := by
        intro sa hsa hsf
        refine ⟨hvj, nm_e ⟨hvj, ?_⟩⟩
        have eb : vp_nar .boolean (nI (rg_B Xscript q n)) = nI (rg_B Xscript q n) := ba_vb (by
          rcases Nat.lt_or_ge (rg_B Xscript q n) 1 with y | y
          · exact Or.inl (by rw [show rg_B Xscript q n = 0 by omega]; rfl)
          · exact Or.inr (by rw [show rg_B Xscript q n = 1 by omega]; rfl))
        rw [cj, eb, pk_us]
        have run : wX_readRegex_103 post (nI j) (nI (n - rg_B Xscript q n)) (n + 1) (nI (rg_A Xscript q + 0)) Xquiet Xfuel (nI L) XinputSize (nI (tx_p Xscript q n + 1)) (nI n) XtablePresent XcommandCount XoutputSize XpatternSize XholdSize XlineNumber XstepCount XnextLine Xpointer Xsubstituted XresultSize Xscript Xinput it Xverb Xnegated Xeverywhere XlabelStart XlabelSize Xtarget XreplacementStart XreplacementEnd Xreplacement Xaddress sa (upd XendAnchor j (nI (rg_B Xscript q n))) (upd XatomCount j 0) XatomChar XatomStarred Xoutput Xpattern Xhold XactivationLine Xresult :=
          xm_rx103 hL hc hj htx h1 (by omega) hit hsa pk_us (fun i hi => ⟨hsf i hi, pk_un hi⟩) hg hb (n + 1) 0 _ _ _ _ (by omega) (by omega) rfl ⟨pk_us, fun i hi => absurd hi (by dsimp only; omega), fun i hi => rfl, fun i hi => ⟨rfl, rfl⟩⟩
        by_cases hB : rg_B Xscript q n = 0
        · refine br_t (by rw [hB]; rfl) ⟨hvj, nm_e ⟨n + 1, ?_⟩⟩
          rw [hB] at run ⊢
          exact run
        · refine br_f (nI_ne0 (by omega) (by omega)) (nm_r (show nI n + (-1) = nI (n - rg_B Xscript q n) from ?_) ⟨hvj, nm_e ⟨n + 1, run⟩⟩)
          obtain ⟨x, hx⟩ : ∃ x, n = x + 1 := ⟨n - 1, by omega⟩
          rw [show n - rg_B Xscript q n = x by omega, hx]
          exact pk_m1 x
      have h57 : ∀ sa : Nat → Int32, sa j = nI (rg_A Xscript q) → (∀ i, ¬ i = j → sa i = XstartAnchor i) → wX_readRegex_57 post (nI j) (nI (rg_A Xscript q)) (nI n) Xquiet Xfuel (nI L) XinputSize (nI (tx_p Xscript q n + 1)) (nI n) XtablePresent XcommandCount XoutputSize XpatternSize XholdSize XlineNumber XstepCount XnextLine Xpointer Xsubstituted XresultSize Xscript Xinput it Xverb Xnegated Xeverywhere XlabelStart XlabelSize Xtarget XreplacementStart XreplacementEnd Xreplacement Xaddress sa XendAnchor XatomCount XatomChar XatomStarred Xoutput Xpattern Xhold XactivationLine Xresult := by
        intro sa hsa hsf
        have en : nI n - 1 = nI (n - 1) := by
          obtain ⟨x, hx⟩ : ∃ x, n = x + 1 := ⟨n - 1, by omega⟩
          rw [hx]; exact nI_pred x
        unfold wX_readRegex_57
        rw [en]
        refine ⟨pk_in (n - 1) 128 (by omega), ?_⟩
        rw [nI_clamp (by omega)]
        have hh := h80 sa hsa hsf
        by_cases w : it (n - 1) = 36
        · have eB : rg_B Xscript q n = 1 := by unfold rg_B; rw [if_pos (kn.mp w)]
          rw [eB] at hh
          exact br_t w hh
        · have eB : rg_B Xscript q n = 0 := by unfold rg_B; rw [if_neg (fun y => w (kn.mpr y))]
          rw [eB] at hh
          exact br_f w hh
      by_cases w : it 0 = 94
      · have eA : rg_A Xscript q = 1 := by unfold rg_A; rw [if_pos (k0.mp w)]
        refine br_t w ⟨hvj, nm_e ⟨hvj, ?_⟩⟩
        rw [cj, pk_us]
        refine br_f (by decide) (nm_e ?_)
        have := h57 (upd XstartAnchor j 1) (by rw [pk_us, eA]; rfl) (fun i hi => pk_un hi)
        rw [eA] at this
        exact this
      · have eA : rg_A Xscript q = 0 := by unfold rg_A; rw [if_neg (fun y => w (k0.mpr y))]
        refine br_f w ⟨hvj, nm_e ⟨hvj, ?_⟩⟩
        rw [cj, pk_us]
        refine br_t rfl ?_
        have := h57 (upd XstartAnchor j 0) (by rw [pk_us, eA]; rfl) (fun i hi => pk_un hi)
        rw [eA] at this
        exact this
  · intro htx cu ic it
    refine br_t rfl ?_
    exact hb (by unfold rg_x; rw [htx]) _ _ _ _ _ _ _ _
theorem xm_num {L q j : Nat} {post : Int32 → SX → Prop} (hL : L ≤ 128) (hj : j < 48) (hq : q ≤ L)
    (hg : ∀ r, nu_x Xscript L q = some r → post 1 (Xquiet, Xfuel, nI L, XinputSize, nI r.2, XitemCount, XtablePresent, XcommandCount, XoutputSize, XpatternSize, XholdSize, XlineNumber, XstepCount, XnextLine, Xpointer, Xsubstituted, XresultSize, Xscript, Xinput, Xitems, Xverb, Xnegated, Xeverywhere, XlabelStart, XlabelSize, Xtarget, XreplacementStart, XreplacementEnd, Xreplacement, upd Xaddress j r.1, XstartAnchor, XendAnchor, XatomCount, XatomChar, XatomStarred, Xoutput, Xpattern, Xhold, XactivationLine, Xresult))
    (hb : nu_x Xscript L q = none → ∀ cu adr, post 0 (Xquiet, Xfuel, nI L, XinputSize, cu, XitemCount, XtablePresent, XcommandCount, XoutputSize, XpatternSize, XholdSize, XlineNumber, XstepCount, XnextLine, Xpointer, Xsubstituted, XresultSize, Xscript, Xinput, Xitems, Xverb, Xnegated, Xeverywhere, XlabelStart, XlabelSize, Xtarget, XreplacementStart, XreplacementEnd, Xreplacement, adr, XstartAnchor, XendAnchor, XatomCount, XatomChar, XatomStarred, Xoutput, Xpattern, Xhold, XactivationLine, Xresult)) :
    ∀ f k, 4 - k < f → k ≤ 4 → k ≤ sc_e (pb_d Xscript) L q - q → wX_readNumber_10 post (nI j) Xquiet Xfuel (nI L) XinputSize XitemCount XtablePresent XcommandCount XoutputSize XpatternSize XholdSize XlineNumber XstepCount XnextLine Xpointer Xsubstituted XresultSize Xscript Xinput Xitems Xverb Xnegated Xeverywhere XlabelStart XlabelSize Xtarget XreplacementStart XreplacementEnd Xreplacement Xaddress XstartAnchor XendAnchor XatomCount XatomChar XatomStarred Xoutput Xpattern Xhold XactivationLine Xresult f (nu_v Xscript q k) (nI k) (xp_v Xscript L (q + k)) (nI (q + k)) := by
  have hf := sc_facts (P := pb_d Xscript) hq
  have hvj : vp_in (nI j) 48 := pk_in j 48 hj
  have cj : (nI j).toNatClampNeg = j := nI_clamp (by omega)
  have h56 : ∀ k, k ≤ 4 → (k = sc_e (pb_d Xscript) L q - q ∨ (k = 4 ∧ k ≤ sc_e (pb_d Xscript) L q - q)) → wX_readNumber_56 post (nI j) (nu_v Xscript q k) (nI k) Xquiet Xfuel (nI L) XinputSize (nI (q + k)) XitemCount XtablePresent XcommandCount XoutputSize XpatternSize XholdSize XlineNumber XstepCount XnextLine Xpointer Xsubstituted XresultSize Xscript Xinput Xitems Xverb Xnegated Xeverywhere XlabelStart XlabelSize Xtarget XreplacementStart XreplacementEnd Xreplacement Xaddress XstartAnchor XendAnchor XatomCount XatomChar XatomStarred Xoutput Xpattern Xhold XactivationLine Xresult := by
    intro k hk4 hk
    refine ⟨hvj, nm_e ?_⟩
    rw [cj]
    refine pk_lt 3 k (fun w => ?_) (fun w => ?_)
    · exact hb (by unfold nu_x; rw [if_neg (fun y => by omega)]) _ _
    · have e : k = sc_e (pb_d Xscript) L q - q := by omega
      refine br_c (fun a => ?_) (fun a => br_c (fun b => ?_) (fun b => ?_))
      · exact hb (by unfold nu_x; rw [if_neg (fun y => by rw [← e] at y; exact absurd a (Int32.not_lt.mpr y.2.1))]) _ _
      · exact hb (by unfold nu_x; rw [if_neg (fun y => by rw [← e] at y; exact absurd b (Int32.not_lt.mpr y.2.2))]) _ _
      · have hx : nu_x Xscript L q = some (nu_v Xscript q k, q + k) := by
          unfold nu_x
          rw [← e, if_pos ⟨by omega, Int32.not_lt.mp a, Int32.not_lt.mp b⟩]
          congr 2
          omega
        exact hg _ hx
  intro f
  induction f with
  | zero => intro k h; omega
  | succ f ih =>
  intro k hfu hk4 hk
  refine pk_lt 3 k (fun w => h56 k hk4 (Or.inr ⟨by omega, hk⟩)) (fun w => ?_)
  refine xm_isDigit' ?_
  by_cases z : k = sc_e (pb_d Xscript) L q - q
  · have e : xp_d Xscript L (q + k) = 0 := by
      unfold xp_d
      rw [if_neg]
      intro y
      have e2 : q + k = sc_e (pb_d Xscript) L q := by omega
      rw [e2] at y
      have := hf.2.2.2 y.1
      rw [this] at y
      exact absurd y.2 (by decide)
    rw [e]
    exact br_t rfl (h56 k hk4 (Or.inl z))
  · have hd := hf.2.2.1 (q + k) (by omega) (by omega)
    have hlt : q + k < L := by omega
    have e : xp_d Xscript L (q + k) = 1 := by
      unfold xp_d
      rw [if_pos ⟨hlt, hd⟩]
    rw [e, xp_lo hlt]
    refine br_f (by decide) (nm_e (nm_r (nI_1 k) (nm_r (nI_1 (q + k)) ?_)))
    refine xm_peek hL (by omega) ?_
    exact ih (k + 1) (by omega) (by omega) (by omega)
theorem xm_readNumber {L q j : Nat} {post : Int32 → SX → Prop} (hL : L ≤ 128) (hj : j < 48) (hq : q ≤ L)
    (hg : ∀ r, nu_x Xscript L q = some r → post 1 (Xquiet, Xfuel, nI L, XinputSize, nI r.2, XitemCount, XtablePresent, XcommandCount, XoutputSize, XpatternSize, XholdSize, XlineNumber, XstepCount, XnextLine, Xpointer, Xsubstituted, XresultSize, Xscript, Xinput, Xitems, Xverb, Xnegated, Xeverywhere, XlabelStart, XlabelSize, Xtarget, XreplacementStart, XreplacementEnd, Xreplacement, upd Xaddress j r.1, XstartAnchor, XendAnchor, XatomCount, XatomChar, XatomStarred, Xoutput, Xpattern, Xhold, XactivationLine, Xresult))
    (hb : nu_x Xscript L q = none → ∀ cu adr, post 0 (Xquiet, Xfuel, nI L, XinputSize, cu, XitemCount, XtablePresent, XcommandCount, XoutputSize, XpatternSize, XholdSize, XlineNumber, XstepCount, XnextLine, Xpointer, Xsubstituted, XresultSize, Xscript, Xinput, Xitems, Xverb, Xnegated, Xeverywhere, XlabelStart, XlabelSize, Xtarget, XreplacementStart, XreplacementEnd, Xreplacement, adr, XstartAnchor, XendAnchor, XatomCount, XatomChar, XatomStarred, Xoutput, Xpattern, Xhold, XactivationLine, Xresult)) :
    wpX_readNumber post (Xquiet, Xfuel, nI L, XinputSize, nI q, XitemCount, XtablePresent, XcommandCount, XoutputSize, XpatternSize, XholdSize, XlineNumber, XstepCount, XnextLine, Xpointer, Xsubstituted, XresultSize, Xscript, Xinput, Xitems, Xverb, Xnegated, Xeverywhere, XlabelStart, XlabelSize, Xtarget, XreplacementStart, XreplacementEnd, Xreplacement, Xaddress, XstartAnchor, XendAnchor, XatomCount, XatomChar, XatomStarred, Xoutput, Xpattern, Xhold, XactivationLine, Xresult) (nI j) := by
  unfold wpX_readNumber
  refine xm_peek hL hq ?_
  exact ⟨5, xm_num hL hj hq hg hb 5 0 (by omega) (by omega) (by omega)⟩
theorem nu_x_n {s : Nat → Int32} {L q : Nat} {r : Int32 × Nat} (h : nu_x s L q = some r) : ∃ m : Nat, 1 ≤ m ∧ m ≤ 255 ∧ r.1 = nI m := by
  unfold nu_x at h
  split at h
  · rename_i z
    have t := (Option.some.inj h).symm
    rw [t]
    have a : ¬ nu_v s q (sc_e (pb_d s) L q - q) < 0 := by
      rw [Int32.not_lt]
      exact Int32.le_trans (by decide) z.2.1
    obtain ⟨m, hm, e⟩ := nI_of a
    dsimp only
    refine ⟨m, ?_, ?_, e⟩
    · have := z.2.1
      rw [e] at this
      exact (nI_leI (a := 1) (by omega) hm).mp this
    · have := z.2.2
      rw [e] at this
      exact (nI_leI (b := 255) hm (by omega)).mp this
  · exact absurd h (by simp)
theorem xm_readAddress {L q j : Nat} {post : Int32 → SX → Prop} (hL : L ≤ 128) (hc : ch_ok Xscript L) (hj : j < 48) (hq : q ≤ L)
    (hg : ∀ a it ic adr sa ea ac ach ast, ad_x Xscript L q = some a → tb_A Xscript L adr sa ea ac ach ast j a.1 a.2.1 → xf_A j Xaddress XstartAnchor XendAnchor XatomCount XatomChar XatomStarred adr sa ea ac ach ast → post 1 (Xquiet, Xfuel, nI L, XinputSize, nI a.2.2, ic, XtablePresent, XcommandCount, XoutputSize, XpatternSize, XholdSize, XlineNumber, XstepCount, XnextLine, Xpointer, Xsubstituted, XresultSize, Xscript, Xinput, it, Xverb, Xnegated, Xeverywhere, XlabelStart, XlabelSize, Xtarget, XreplacementStart, XreplacementEnd, Xreplacement, adr, sa, ea, ac, ach, ast, Xoutput, Xpattern, Xhold, XactivationLine, Xresult))
    (hb : ad_x Xscript L q = none → ∀ cu ic it adr sa ea ac ach ast, post 0 (Xquiet, Xfuel, nI L, XinputSize, cu, ic, XtablePresent, XcommandCount, XoutputSize, XpatternSize, XholdSize, XlineNumber, XstepCount, XnextLine, Xpointer, Xsubstituted, XresultSize, Xscript, Xinput, it, Xverb, Xnegated, Xeverywhere, XlabelStart, XlabelSize, Xtarget, XreplacementStart, XreplacementEnd, Xreplacement, adr, sa, ea, ac, ach, ast, Xoutput, Xpattern, Xhold, XactivationLine, Xresult)) :
    wpX_readAddress post (Xquiet, Xfuel, nI L, XinputSize, nI q, XitemCount, XtablePresent, XcommandCount, XoutputSize, XpatternSize, XholdSize, XlineNumber, XstepCount, XnextLine, Xpointer, Xsubstituted, XresultSize, Xscript, Xinput, Xitems, Xverb, Xnegated, Xeverywhere, XlabelStart, XlabelSize, Xtarget, XreplacementStart, XreplacementEnd, Xreplacement, Xaddress, XstartAnchor, XendAnchor, XatomCount, XatomChar, XatomStarred, Xoutput, Xpattern, Xhold, XactivationLine, Xresult) (nI j) := by
  have hvj : vp_in (nI j) 48 := pk_in j 48 hj
  have cj : (nI j).toNatClampNeg = j := nI_clamp (by omega)
  have fru : ∀ v, xf_A j Xaddress XstartAnchor XendAnchor XatomCount XatomChar XatomStarred (upd Xaddress j v) XstartAnchor XendAnchor XatomCount XatomChar XatomStarred := fun v => ⟨fun i hi => ⟨pk_un hi, rfl, rfl, rfl⟩, fun i hi => ⟨rfl, rfl⟩⟩
  unfold wpX_readAddress
  refine xm_peek hL hq ?_
  refine xm_isDigit' ?_
  by_cases hd : q < L ∧ pb_d Xscript q = true
  · rw [show xp_d Xscript L q = 1 from by unfold xp_d; rw [if_pos hd]]
    refine br_f (by decide) ?_
    have n36 : ¬ Xscript q = 36 := fun y => by
      have := of_decide_eq_true hd.2
      rw [y] at this
      exact absurd this.1 (by decide)
    have n47 : ¬ Xscript q = 47 := fun y => by
      have := of_decide_eq_true hd.2
      rw [y] at this
      exact absurd this.1 (by decide)
    have ex : ad_x Xscript L q = (nu_x Xscript L q).map (fun r => (1, r.1, r.2)) := by
      unfold ad_x
      rw [if_neg (by omega), if_neg n36, if_neg n47, if_pos hd.2]
    refine xm_readNumber hL hj hq ?_ ?_
    · intro r hr
      refine ⟨rfl, ?_⟩
      rw [hr] at ex
      obtain ⟨m, m1, m2, e⟩ := nu_x_n hr
      exact hg _ _ _ _ _ _ _ _ _ ex (Or.inr (Or.inl ⟨rfl, pk_us, m, m1, m2, e⟩)) (fru _)
    · intro hr cu adr
      refine ⟨rfl, ?_⟩
      rw [hr] at ex
      exact hb ex _ _ _ _ _ _ _ _ _
  · rw [show xp_d Xscript L q = 0 from by unfold xp_d; rw [if_neg hd]]
    refine br_t rfl (nm_r (nI_1 q) ?_)
    rcases Nat.lt_or_ge q L with hqL | hqL
    · rw [xp_lo hqL]
      have nd : ¬ pb_d Xscript q = true := fun y => hd ⟨hqL, y⟩
      by_cases h36 : Xscript q = 36
      · refine br_t h36 ⟨hvj, nm_e ?_⟩
        rw [cj]
        exact hg (2, 0, q + 1) _ _ _ _ _ _ _ _ (by unfold ad_x; rw [if_neg (by omega), if_pos h36]) (Or.inr (Or.inr (Or.inl ⟨rfl, pk_us⟩))) (fru _)
      · refine br_f h36 ⟨hvj, nm_e ?_⟩
        rw [cj]
        by_cases h47 : Xscript q = 47
        · refine br_t h47 ?_
          have ex : ad_x Xscript L q = (rg_x Xscript L (q + 1)).map (fun r => (3, nI (q + 1), r.1)) := by
            unfold ad_x
            rw [if_neg (by omega), if_neg h36, if_pos h47]
          refine xm_readRegex hL hc hj (by omega) (by omega) ?_ ?_
          · intro g it ic sa ea ac ach ast hr hR hF
            refine br_f (by decide) ?_
            rw [hr] at ex
            refine hg _ _ _ _ _ _ _ _ _ ex (Or.inr (Or.inr (Or.inr ⟨rfl, pk_us, q + 1, g, by omega, rfl, hr, hR⟩))) ⟨fun i hi => ?_, hF.2⟩
            have := hF.1 i hi
            exact ⟨pk_un hi, this.2⟩
          · intro hr cu ic it sa ea ac ach ast
            refine br_t rfl ?_
            rw [hr] at ex
            exact hb ex _ _ _ _ _ _ _ _ _
        · refine br_f h47 ?_
          exact hb (by unfold ad_x; rw [if_neg (by omega), if_neg h36, if_neg h47, if_neg nd]) _ _ _ _ _ _ _ _ _
    · rw [xp_hi hqL]
      have ex : ad_x Xscript L q = none := by unfold ad_x; rw [if_pos hqL]
      refine br_f (by decide) ⟨hvj, nm_e (br_f (by decide) ?_)⟩
      exact hb ex _ _ _ _ _ _ _ _ _
end XA_1
