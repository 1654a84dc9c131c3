/-! Y's parser: chars, texts, regexes -/
section YT_1
variable {Yquiet Yfuel YscrLen YinpLen YhasTab YnCmd YoutLen YpatLen YholdLen YlinesRead YstepsUsed Ytflag YnAddr Ya1K Ya1V Ya2K Ya2V Ycc YlabS YlabL YsRe YsRep YadK YadV Yneg YsG YicN Yna YanS YanE YmJ YrLen : Int32} {Yscr Yinp YcmdPos Yout Ypat Yhold Yactive Yact Yic Yie YaC YaAny YaSt Yrch Ynx Yrb : Nat → Int32}
theorem ym_skip {L q : Nat} {post : Int32 → Prop} (hL : L ≤ 128) (hq : q ≤ L) (h : post (nI (cm_sk Yscr L q))) : wpY_skip post (Yquiet, Yfuel, nI L, YinpLen, YhasTab, YnCmd, YoutLen, YpatLen, YholdLen, YlinesRead, YstepsUsed, Ytflag, YnAddr, Ya1K, Ya1V, Ya2K, Ya2V, Ycc, YlabS, YlabL, YsRe, YsRep, YadK, YadV, Yneg, YsG, YicN, Yna, YanS, YanE, YmJ, YrLen, Yscr, Yinp, YcmdPos, Yout, Ypat, Yhold, Yactive, Yact, Yic, Yie, YaC, YaAny, YaSt, Yrch, Ynx, Yrb) (nI q) := by
  unfold wpY_skip
  refine ⟨L - q + 1, ?_⟩
  refine sc_loop (fun n q => wY_skip_0 post Yquiet Yfuel (nI L) YinpLen YhasTab YnCmd YoutLen YpatLen YholdLen YlinesRead YstepsUsed Ytflag YnAddr Ya1K Ya1V Ya2K Ya2V Ycc YlabS YlabL YsRe YsRep YadK YadV Yneg YsG YicN Yna YanS YanE YmJ YrLen Yscr Yinp YcmdPos Yout Ypat Yhold Yactive Yact Yic Yie YaC YaAny YaSt Yrch Ynx Yrb n (nI q)) (pb_b Yscr) L (fun q => post (nI q)) ?_ ?_ (L - q + 1) q hq (by omega) h
  · intro n q hq hp hW
    refine br_f (nI_ge hq (by omega)) ⟨pk_in q 128 (by omega), ?_⟩
    rw [nI_clamp (by omega)]
    exact br_t (of_decide_eq_true hp) (nm_r (nI_1 q) hW)
  · intro n q hq hp hR
    refine pk_le L q (fun g => hR) (fun g => ⟨pk_in q 128 (by omega), ?_⟩)
    rw [nI_clamp (by omega)]
    exact br_f (of_decide_eq_false (hp g)) hR
theorem ym_isDigit {s : Nat → Int32} {q : Nat} {post : Int32 → Prop} (h : post (if pb_d s q = true then 1 else 0)) : wpY_isDigit post (Yquiet, Yfuel, YscrLen, YinpLen, YhasTab, YnCmd, YoutLen, YpatLen, YholdLen, YlinesRead, YstepsUsed, Ytflag, YnAddr, Ya1K, Ya1V, Ya2K, Ya2V, Ycc, YlabS, YlabL, YsRe, YsRep, YadK, YadV, Yneg, YsG, YicN, Yna, YanS, YanE, YmJ, YrLen, Yscr, Yinp, YcmdPos, Yout, Ypat, Yhold, Yactive, Yact, Yic, Yie, YaC, YaAny, YaSt, Yrch, Ynx, Yrb) (s q) := xm_isDigit h
theorem ym_isLab {s : Nat → Int32} {q : Nat} {post : Int32 → Prop} (h : post (if pb_l s q = true then 1 else 0)) : wpY_isLab post (Yquiet, Yfuel, YscrLen, YinpLen, YhasTab, YnCmd, YoutLen, YpatLen, YholdLen, YlinesRead, YstepsUsed, Ytflag, YnAddr, Ya1K, Ya1V, Ya2K, Ya2V, Ycc, YlabS, YlabL, YsRe, YsRep, YadK, YadV, Yneg, YsG, YicN, Yna, YanS, YanE, YmJ, YrLen, Yscr, Yinp, YcmdPos, Yout, Ypat, Yhold, Yactive, Yact, Yic, Yie, YaC, YaAny, YaSt, Yrch, Ynx, Yrb) (s q) := by
  have t : pb_l s q = true → post 1 := fun z => by rw [if_pos z] at h; exact h
  have f : ¬ pb_l s q = true → post 0 := fun z => by rw [if_neg z] at h; exact h
  have t : ((65 ≤ s q ∧ s q ≤ 90) ∨ (97 ≤ s q ∧ s q ≤ 122) ∨ (48 ≤ s q ∧ s q ≤ 57) ∨ s q = 95) → post 1 := fun z => t (decide_eq_true z)
  have f : ¬ ((65 ≤ s q ∧ s q ≤ 90) ∨ (97 ≤ s q ∧ s q ≤ 122) ∨ (48 ≤ s q ∧ s q ≤ 57) ∨ s q = 95) → post 0 := fun z => f (fun y => z (of_decide_eq_true y))
  have h36 : ¬ (65 ≤ s q ∧ s q ≤ 90) → ¬ (97 ≤ s q ∧ s q ≤ 122) → ¬ (48 ≤ s q ∧ s q ≤ 57) → wY_isLab_36 post (s q) Yquiet Yfuel YscrLen YinpLen YhasTab YnCmd YoutLen YpatLen YholdLen YlinesRead YstepsUsed Ytflag YnAddr Ya1K Ya1V Ya2K Ya2V Ycc YlabS YlabL YsRe YsRep YadK YadV Yneg YsG YicN Yna YanS YanE YmJ YrLen Yscr Yinp YcmdPos Yout Ypat Yhold Yactive Yact Yic Yie YaC YaAny YaSt Yrch Ynx Yrb := fun a b c => br_c (fun d => t (Or.inr (Or.inr (Or.inr d)))) (fun d => f (fun z => by
    rcases z with z | z | z | z
    · exact a z
    · exact b z
    · exact c z
    · exact d z))
  have h24 : ¬ (65 ≤ s q ∧ s q ≤ 90) → ¬ (97 ≤ s q ∧ s q ≤ 122) → wY_isLab_24 post (s q) Yquiet Yfuel YscrLen YinpLen YhasTab YnCmd YoutLen YpatLen YholdLen YlinesRead YstepsUsed Ytflag YnAddr Ya1K Ya1V Ya2K Ya2V Ycc YlabS YlabL YsRe YsRep YadK YadV Yneg YsG YicN Yna YanS YanE YmJ YrLen Yscr Yinp YcmdPos Yout Ypat Yhold Yactive Yact Yic Yie YaC YaAny YaSt Yrch Ynx Yrb := fun a b => br_c (fun d => h36 a b (fun z => absurd d (Int32.not_lt.mpr z.1))) (fun d => br_c (fun e => t (Or.inr (Or.inr (Or.inl ⟨Int32.not_lt.mp d, e⟩)))) (fun e => h36 a b (fun z => e z.2)))
  have h12 : ¬ (65 ≤ s q ∧ s q ≤ 90) → wY_isLab_12 post (s q) Yquiet Yfuel YscrLen YinpLen YhasTab YnCmd YoutLen YpatLen YholdLen YlinesRead YstepsUsed Ytflag YnAddr Ya1K Ya1V Ya2K Ya2V Ycc YlabS YlabL YsRe YsRep YadK YadV Yneg YsG YicN Yna YanS YanE YmJ YrLen Yscr Yinp YcmdPos Yout Ypat Yhold Yactive Yact Yic Yie YaC YaAny YaSt Yrch Ynx Yrb := fun a => br_c (fun d => h24 a (fun z => absurd d (Int32.not_lt.mpr z.1))) (fun d => br_c (fun e => t (Or.inr (Or.inl ⟨Int32.not_lt.mp d, e⟩))) (fun e => h24 a (fun z => e z.2)))
  exact br_c (fun d => h12 (fun z => absurd d (Int32.not_lt.mpr z.1))) (fun d => br_c (fun e => t (Or.inl ⟨Int32.not_lt.mp d, e⟩)) (fun e => h12 (fun z => e z.2)))
theorem ym_text {L q : Nat} {post : Int32 → SY → Prop} (hL : L ≤ 128)
    (hg : ∀ n ic ie, tx_n Yscr L q = some n → (∀ j, j < n → ic j = tx_c Yscr (tx_p Yscr q j) ∧ ie j = tx_e Yscr (tx_p Yscr q j)) → post (nI (tx_p Yscr q n + 1)) (Yquiet, Yfuel, nI L, YinpLen, YhasTab, YnCmd, YoutLen, YpatLen, YholdLen, YlinesRead, YstepsUsed, Ytflag, YnAddr, Ya1K, Ya1V, Ya2K, Ya2V, Ycc, YlabS, YlabL, YsRe, YsRep, YadK, YadV, Yneg, YsG, nI n, Yna, YanS, YanE, YmJ, YrLen, Yscr, Yinp, YcmdPos, Yout, Ypat, Yhold, Yactive, Yact, ic, ie, YaC, YaAny, YaSt, Yrch, Ynx, Yrb))
    (hb : tx_n Yscr L q = none → ∀ icn ic ie, post (-1) (Yquiet, Yfuel, nI L, YinpLen, YhasTab, YnCmd, YoutLen, YpatLen, YholdLen, YlinesRead, YstepsUsed, Ytflag, YnAddr, Ya1K, Ya1V, Ya2K, Ya2V, Ycc, YlabS, YlabL, YsRe, YsRep, YadK, YadV, Yneg, YsG, icn, Yna, YanS, YanE, YmJ, YrLen, Yscr, Yinp, YcmdPos, Yout, Ypat, Yhold, Yactive, Yact, ic, ie, YaC, YaAny, YaSt, Yrch, Ynx, Yrb)) :
    ∀ f k p ic ie, L - p < f → p ≤ L → p = tx_p Yscr q k → (∀ j, j < k → ic j = tx_c Yscr (tx_p Yscr q j) ∧ ie j = tx_e Yscr (tx_p Yscr q j)) → tx_n Yscr L q = (tx_n Yscr L p).map (fun n => n + k) → wY_loadText_7 post Yquiet Yfuel (nI L) YinpLen YhasTab YnCmd YoutLen YpatLen YholdLen YlinesRead YstepsUsed Ytflag YnAddr Ya1K Ya1V Ya2K Ya2V Ycc YlabS YlabL YsRe YsRep YadK YadV Yneg YsG Yna YanS YanE YmJ YrLen f (nI p) (nI k) (nI k) Yscr Yinp YcmdPos Yout Ypat Yhold Yactive Yact ic ie YaC YaAny YaSt Yrch Ynx Yrb := by
  intro f
  induction f with
  | zero => intro k p ic ie h; omega
  | succ f ih =>
  intro k p ic ie hf hp hpk hit htx
  have hkp : q + k ≤ p := by rw [hpk]; exact tx_p_ge _ _ _
  refine br_f (nI_nlt (b := k) (a := 128) (by omega) (by decide)) (br_f (nI_pos (by omega)) ?_)
  have go : ∀ (c e : Int32), (Yscr p = 92 → p + 1 < L ∧ ¬ Yscr (p + 1) = 10) → p < L → ¬ Yscr p = 10 → ¬ Yscr p = 47 → c = tx_c Yscr p → e = tx_e Yscr p → ∀ p', p' + 1 = tx_nx Yscr p → wY_loadText_106 post (wY_loadText_7 post Yquiet Yfuel (nI L) YinpLen YhasTab YnCmd YoutLen YpatLen YholdLen YlinesRead YstepsUsed Ytflag YnAddr Ya1K Ya1V Ya2K Ya2V Ycc YlabS YlabL YsRe YsRep YadK YadV Yneg YsG Yna YanS YanE YmJ YrLen f) (nI p') (nI k) c e Yquiet Yfuel (nI L) YinpLen YhasTab YnCmd YoutLen YpatLen YholdLen YlinesRead YstepsUsed Ytflag YnAddr Ya1K Ya1V Ya2K Ya2V Ycc YlabS YlabL YsRe YsRep YadK YadV Yneg YsG (nI k) Yna YanS YanE YmJ YrLen Yscr Yinp YcmdPos Yout Ypat Yhold Yactive Yact ic ie YaC YaAny YaSt Yrch Ynx Yrb := by
    intro c e s92 hpL h10 h47 hcd hed p' hp'
    have hi : vp_in (nI k) 128 := pk_in k 128 (by omega)
    refine br_f (nI_ge (b := 128) (by omega) (by decide)) ⟨hi, nm_e ⟨hi, nm_e (nm_r (nI_1 k) (nm_r (nI_1 p') (nm_r (nI_1 k) ?_)))⟩⟩
    rw [nI_clamp (by omega), ba_vb (by rw [hed]; exact tx_e01 _ _), hp']
    have hlt := tx_nx_lt Yscr p
    refine ih (k + 1) (tx_nx Yscr p) _ _ (by omega) (tx_nx_le hpL (fun z => (s92 z).1)) (by rw [tx_p, ← hpk]) (fun j hj => ?_) ?_
    · by_cases z : j = k
      · rw [z, pk_us, pk_us, hcd, hed, hpk]; exact ⟨rfl, rfl⟩
      · rw [pk_un z, pk_un z]; exact hit j (by omega)
    · rw [htx, tx_step hpL h10 h47 s92, tx_mapk]
  refine pk_lt p L (fun hpL => ⟨pk_in p 128 (by omega), ?_⟩) (fun hpL => hb (by rw [htx, tx_bad (Or.inl hpL)]; rfl) _ _ _)
  rw [nI_clamp (by omega)]
  refine nm_e ?_
  by_cases h10 : Yscr p = 10
  · exact br_t h10 (hb (by rw [htx, tx_bad (Or.inr h10)]; rfl) _ _ _)
  refine br_f h10 ?_
  by_cases h47 : Yscr p = 47
  · refine br_t h47 ?_
    rw [tx_fin hpL h47] at htx
    have := hg k ic ie (by rw [htx]; show some (0 + k) = some k; rw [Nat.zero_add]) hit
    rw [← hpk] at this
    rw [nI_1]
    exact this
  refine br_f h47 ?_
  by_cases h92 : Yscr p = 92
  · refine br_t h92 ?_
    rw [nI_1]
    refine pk_lt (p + 1) L (fun hp1 => ⟨pk_in (p + 1) 128 (by omega), ?_⟩) (fun hp1 => hb (by rw [htx, tx_bad2 h92 (Or.inl hp1)]; rfl) _ _ _)
    rw [nI_clamp (by omega)]
    refine nm_e ?_
    by_cases h10' : Yscr (p + 1) = 10
    · exact br_t h10' (hb (by rw [htx, tx_bad2 h92 (Or.inr h10')]; rfl) _ _ _)
    refine br_f h10' ?_
    have nx : p + 1 + 1 = tx_nx Yscr p := by unfold tx_nx; rw [if_pos h92]
    have he : (1 : Int32) = tx_e Yscr p := by unfold tx_e; rw [if_pos h92]
    by_cases h110 : Yscr (p + 1) = 110
    · exact br_t h110 (nm_r (nI_1 p) (go 10 1 (fun _ => ⟨hp1, h10'⟩) hpL h10 h47 (by unfold tx_c; rw [if_pos h92, if_pos h110]) he (p + 1) nx))
    · exact br_f h110 (nm_r (nI_1 p) (go _ 1 (fun _ => ⟨hp1, h10'⟩) hpL h10 h47 (by unfold tx_c; rw [if_pos h92, if_neg h110]) he (p + 1) nx))
  · have nx : p + 1 = tx_nx Yscr p := by unfold tx_nx; rw [if_neg h92]
    exact br_f h92 (go _ 0 (fun z => absurd z h92) hpL h10 h47 (by unfold tx_c; rw [if_neg h92]) (by unfold tx_e; rw [if_neg h92]) p nx)
theorem ym_loadText {L q : Nat} {post : Int32 → SY → Prop} (hL : L ≤ 128) (hq : q ≤ L)
    (hg : ∀ n ic ie, tx_n Yscr L q = some n → (∀ j, j < n → ic j = tx_c Yscr (tx_p Yscr q j) ∧ ie j = tx_e Yscr (tx_p Yscr q j)) → post (nI (tx_p Yscr q n + 1)) (Yquiet, Yfuel, nI L, YinpLen, YhasTab, YnCmd, YoutLen, YpatLen, YholdLen, YlinesRead, YstepsUsed, Ytflag, YnAddr, Ya1K, Ya1V, Ya2K, Ya2V, Ycc, YlabS, YlabL, YsRe, YsRep, YadK, YadV, Yneg, YsG, nI n, Yna, YanS, YanE, YmJ, YrLen, Yscr, Yinp, YcmdPos, Yout, Ypat, Yhold, Yactive, Yact, ic, ie, YaC, YaAny, YaSt, Yrch, Ynx, Yrb))
    (hb : tx_n Yscr L q = none → ∀ icn ic ie, post (-1) (Yquiet, Yfuel, nI L, YinpLen, YhasTab, YnCmd, YoutLen, YpatLen, YholdLen, YlinesRead, YstepsUsed, Ytflag, YnAddr, Ya1K, Ya1V, Ya2K, Ya2V, Ycc, YlabS, YlabL, YsRe, YsRep, YadK, YadV, Yneg, YsG, icn, Yna, YanS, YanE, YmJ, YrLen, Yscr, Yinp, YcmdPos, Yout, Ypat, Yhold, Yactive, Yact, ic, ie, YaC, YaAny, YaSt, Yrch, Ynx, Yrb)) :
    wpY_loadText post (Yquiet, Yfuel, nI L, YinpLen, YhasTab, YnCmd, YoutLen, YpatLen, YholdLen, YlinesRead, YstepsUsed, Ytflag, YnAddr, Ya1K, Ya1V, Ya2K, Ya2V, Ycc, YlabS, YlabL, YsRe, YsRep, YadK, YadV, Yneg, YsG, YicN, Yna, YanS, YanE, YmJ, YrLen, Yscr, Yinp, YcmdPos, Yout, Ypat, Yhold, Yactive, Yact, Yic, Yie, YaC, YaAny, YaSt, Yrch, Ynx, Yrb) (nI q) := by
  unfold wpY_loadText
  exact ⟨L - q + 1, ym_text hL hg hb (L - q + 1) 0 q _ _ (by omega) hq rfl (fun j hj => absurd hj (by omega)) (tx_map0 _).symm⟩
/-- Y's arrays hold the atoms g -/
def ya_H (aC aAny aSt : Nat → Int32) (g : Nat × (Nat → Int32) × (Nat → Int32)) : Prop :=
  ∀ i, i < g.1 → ((aAny i = 0 ∧ aC i = g.2.1 i ∧ ¬ g.2.1 i = -1) ∨ (¬ aAny i = 0 ∧ g.2.1 i = -1)) ∧ aSt i = g.2.2 i
theorem ym_b99 {L q n : Nat} {post : Int32 → SY → Prop} (hL : L ≤ 128) (hc : ch_ok Yscr L) (htx : tx_n Yscr L q = some n) (hn : 0 < n) (hic : ∀ j, j < n → Yic j = tx_c Yscr (tx_p Yscr q j) ∧ Yie j = tx_e Yscr (tx_p Yscr q j))
    (hg : ∀ g aC aAny aSt, rg_x Yscr L q = some g → ya_H aC aAny aSt (g.2.2.2.1, g.2.2.2.2.1, g.2.2.2.2.2) → post 1 (Yquiet, Yfuel, nI L, YinpLen, YhasTab, YnCmd, YoutLen, YpatLen, YholdLen, YlinesRead, YstepsUsed, Ytflag, YnAddr, Ya1K, Ya1V, Ya2K, Ya2V, Ycc, YlabS, YlabL, YsRe, YsRep, YadK, YadV, Yneg, YsG, nI n, nI g.2.2.2.1, nI g.2.1, nI g.2.2.1, YmJ, YrLen, Yscr, Yinp, YcmdPos, Yout, Ypat, Yhold, Yactive, Yact, Yic, Yie, aC, aAny, aSt, Yrch, Ynx, Yrb))
    (hb : rg_x Yscr L q = none → ∀ na anS anE aC aAny aSt, post 0 (Yquiet, Yfuel, nI L, YinpLen, YhasTab, YnCmd, YoutLen, YpatLen, YholdLen, YlinesRead, YstepsUsed, Ytflag, YnAddr, Ya1K, Ya1V, Ya2K, Ya2V, Ycc, YlabS, YlabL, YsRe, YsRep, YadK, YadV, Yneg, YsG, nI n, na, anS, anE, YmJ, YrLen, Yscr, Yinp, YcmdPos, Yout, Ypat, Yhold, Yactive, Yact, Yic, Yie, aC, aAny, aSt, Yrch, Ynx, Yrb)) :
    ∀ f m aC aAny aSt g, n - rg_B Yscr q n - (rg_A Yscr q + m) < f → rg_A Yscr q + m ≤ n - rg_B Yscr q n → rg_f Yscr q (rg_A Yscr q) m = some g → ya_H aC aAny aSt g →
      wY_buildRegex_99 post (nI (n - rg_B Yscr q n)) Yquiet Yfuel (nI L) YinpLen YhasTab YnCmd YoutLen YpatLen YholdLen YlinesRead YstepsUsed Ytflag YnAddr Ya1K Ya1V Ya2K Ya2V Ycc YlabS YlabL YsRe YsRep YadK YadV Yneg YsG (nI n) (nI (rg_A Yscr q)) (nI (rg_B Yscr q n)) YmJ YrLen f (nI (rg_A Yscr q + m)) (nI g.1) Yscr Yinp YcmdPos Yout Ypat Yhold Yactive Yact Yic Yie aC aAny aSt Yrch Ynx Yrb := by
  have hf := tx_facts n q htx
  have hpn := tx_p_ge Yscr q n
  intro f
  induction f with
  | zero => intro m aC aAny aSt g h; omega
  | succ f ih =>
  intro m aC aAny aSt g hfu hm hrg H
  have r12 := rg_le12 _ _ hrg
  rcases Nat.lt_or_ge (rg_A Yscr q + m) (n - rg_B Yscr q n) with z | z
  · have hB := rg_B1 Yscr q n
    obtain ⟨f1, f2, f3, f4⟩ := hf.1 (rg_A Yscr q + m) (by omega)
    obtain ⟨c1, c2⟩ := hic (rg_A Yscr q + m) (by omega)
    obtain ⟨cm, hcm, ecm⟩ := tx_c_ok hc f1 (fun y => (f4 y).1)
    have hi : vp_in (nI (rg_A Yscr q + m)) 128 := vp_in_nI (by omega) (by omega)
    refine br_f (nI_ge z (by omega)) (br_f (nI_ge (b := 128) (by omega) (by decide)) ⟨hi, ?_⟩)
    rw [nI_clamp (by omega), c1, c2]
    have bad : rg_s (tx_c Yscr (tx_p Yscr q (rg_A Yscr q + m))) (tx_e Yscr (tx_p Yscr q (rg_A Yscr q + m))) g = none → rg_x Yscr L q = none := by
      intro hs
      have e : rg_f Yscr q (rg_A Yscr q) (m + 1) = none := by rw [rg_f, hrg]; exact hs
      have e2 := rg_none e (n - rg_B Yscr q n - rg_A Yscr q - (m + 1))
      rw [show m + 1 + (n - rg_B Yscr q n - rg_A Yscr q - (m + 1)) = n - rg_B Yscr q n - rg_A Yscr q by omega] at e2
      unfold rg_x
      rw [htx]
      dsimp only
      rw [if_neg (by omega), e2]
    generalize hcc : tx_c Yscr (tx_p Yscr q (rg_A Yscr q + m)) = c at bad ecm ⊢
    generalize hee : tx_e Yscr (tx_p Yscr q (rg_A Yscr q + m)) = e at bad ⊢
    have hs1 : ∀ g', rg_s c e g = some g' → rg_f Yscr q (rg_A Yscr q) (m + 1) = some g' := fun g' hs => by rw [rg_f, hrg, hcc, hee]; exact hs
    have cn1 : ¬ c = -1 := by
      rw [ecm]; intro y
      exact absurd (nI_pos (n := cm) (by omega)) (by rw [y]; exact fun q => q (by decide))
    obtain ⟨na, ch, st⟩ := g
    have h173 : ¬ (e = 0 ∧ c = 42 ∧ 0 < na) → wY_buildRegex_173 post (wY_buildRegex_99 post (nI (n - rg_B Yscr q n)) Yquiet Yfuel (nI L) YinpLen YhasTab YnCmd YoutLen YpatLen YholdLen YlinesRead YstepsUsed Ytflag YnAddr Ya1K Ya1V Ya2K Ya2V Ycc YlabS YlabL YsRe YsRep YadK YadV Yneg YsG (nI n) (nI (rg_A Yscr q)) (nI (rg_B Yscr q n)) YmJ YrLen f) (nI (n - rg_B Yscr q n)) (nI (rg_A Yscr q + m)) c Yquiet Yfuel (nI L) YinpLen YhasTab YnCmd YoutLen YpatLen YholdLen YlinesRead YstepsUsed Ytflag YnAddr Ya1K Ya1V Ya2K Ya2V Ycc YlabS YlabL YsRe YsRep YadK YadV Yneg YsG (nI n) (nI na) (nI (rg_A Yscr q)) (nI (rg_B Yscr q n)) YmJ YrLen Yscr Yinp YcmdPos Yout Ypat Yhold Yactive Yact Yic Yie aC aAny aSt Yrch Ynx Yrb := by
      intro hn'
      refine pk_lt na 12 (fun g12 => ?_) (fun g12 => hb (bad (by unfold rg_s; rw [if_neg hn', if_pos (by dsimp only; omega)])) _ _ _ _ _ _)
      have hr : rg_s c e (na, ch, st) = some (na + 1, upd ch na (if e = 0 ∧ c = 46 then -1 else c), upd st na 0) := by
        unfold rg_s
        rw [if_neg hn', if_neg (by dsimp only; omega)]
      have hv : vp_in (nI na) 12 := pk_in na 12 g12
      have h224 : ∀ zz : Int32, (zz = 0 ∧ ¬ (e = 0 ∧ c = 46)) ∨ (zz = 1 ∧ (e = 0 ∧ c = 46)) → wY_buildRegex_224 post (wY_buildRegex_99 post (nI (n - rg_B Yscr q n)) Yquiet Yfuel (nI L) YinpLen YhasTab YnCmd YoutLen YpatLen YholdLen YlinesRead YstepsUsed Ytflag YnAddr Ya1K Ya1V Ya2K Ya2V Ycc YlabS YlabL YsRe YsRep YadK YadV Yneg YsG (nI n) (nI (rg_A Yscr q)) (nI (rg_B Yscr q n)) YmJ YrLen f) (nI (n - rg_B Yscr q n)) (nI (rg_A Yscr q + m)) zz (nI na) Yquiet Yfuel (nI L) YinpLen YhasTab YnCmd YoutLen YpatLen YholdLen YlinesRead YstepsUsed Ytflag YnAddr Ya1K Ya1V Ya2K Ya2V Ycc YlabS YlabL YsRe YsRep YadK YadV Yneg YsG (nI n) (nI na) (nI (rg_A Yscr q)) (nI (rg_B Yscr q n)) YmJ YrLen Yscr Yinp YcmdPos Yout Ypat Yhold Yactive Yact Yic Yie (upd aC na c) aAny aSt Yrch Ynx Yrb := by
        intro zz hz
        refine ⟨hv, nm_e ⟨hv, nm_e (nm_r (nI_1 na) (nm_r (nI_1 (rg_A Yscr q + m)) ?_))⟩⟩
        rw [nI_clamp (show na < 2 ^ 31 by omega), ba_vb (by rcases hz with ⟨y, _⟩ | ⟨y, _⟩; exact Or.inl y; exact Or.inr y)]
        refine ih (m + 1) _ _ _ _ (by omega) (by omega) (hs1 _ hr) (fun i hi => ?_)
        dsimp only at hi ⊢
        by_cases y : i = na
        · rw [y, pk_us, pk_us, pk_us, pk_us, pk_us]
          rcases hz with ⟨y1, y2⟩ | ⟨y1, y2⟩
          · rw [if_neg y2]; exact ⟨Or.inl ⟨y1, rfl, cn1⟩, rfl⟩
          · rw [if_pos y2]; exact ⟨Or.inr ⟨by rw [y1]; decide, rfl⟩, rfl⟩
        · rw [pk_un y, pk_un y, pk_un y, pk_un y, pk_un y]; exact H i (by show i < na; omega)
      refine ⟨hv, nm_e ⟨hi, ?_⟩⟩
      rw [nI_clamp (show na < 2 ^ 31 by omega), nI_clamp (show rg_A Yscr q + m < 2 ^ 31 by omega), c2, hee]
      refine br_c (fun e0 => br_c (fun c46 => h224 1 (Or.inr ⟨rfl, e0, c46⟩)) (fun c46 => h224 0 (Or.inl ⟨rfl, fun y => c46 y.2⟩))) (fun e0 => h224 0 (Or.inl ⟨rfl, fun y => e0 y.1⟩))
    refine nm_e ⟨hi, ?_⟩
    refine br_c (fun e0 => br_c (fun c42 => pk_le na 0 (fun g0 => h173 (fun y => by omega)) (fun g0 => ?_)) (fun c42 => h173 (fun y => c42 y.2.1))) (fun e0 => h173 (fun y => e0 y.1))
    have hs : nI na - 1 = nI (na - 1) := by
      obtain ⟨x, rfl⟩ : ∃ x, na = x + 1 := ⟨na - 1, by omega⟩
      exact nI_pred x
    have i1 : na ≤ 12 := r12.1
    have hv : vp_in (nI (na - 1)) 12 := vp_in_nI (by omega) (by omega)
    have hst : aSt (na - 1) = st (na - 1) := (H (na - 1) (by show na - 1 < na; omega)).2
    show vp_in (nI na - 1) 12 ∧ _
    rw [hs]
    refine ⟨hv, ?_⟩
    rw [nI_clamp (show na - 1 < 2 ^ 31 by omega), hst]
    by_cases w : st (na - 1) = 0
    · refine br_t w ⟨hv, nm_e (nm_r (nI_1 _) ?_)⟩
      refine ih (m + 1) _ _ _ (na, ch, upd st (na - 1) 1) (by omega) (by omega) (hs1 _ (by unfold rg_s; rw [if_pos ⟨e0, c42, g0⟩, if_pos w])) (fun i hi => ?_)
      dsimp only at hi ⊢
      have Hi := H i hi
      dsimp only at Hi
      refine ⟨Hi.1, ?_⟩
      by_cases y : i = na - 1
      · rw [y, pk_us, pk_us]; rfl
      · rw [pk_un y, pk_un y]; exact Hi.2
    · exact br_f w (hb (bad (by unfold rg_s; rw [if_pos ⟨e0, c42, g0⟩, if_neg w])) _ _ _ _ _ _)
  · refine br_t (nI_le z (by omega)) ?_
    have e : m = n - rg_B Yscr q n - rg_A Yscr q := by omega
    rw [e] at hrg
    have hx : rg_x Yscr L q = some (tx_p Yscr q n + 1, rg_A Yscr q, rg_B Yscr q n, g.1, g.2.1, g.2.2) := by
      unfold rg_x
      rw [htx]
      dsimp only
      rw [if_neg (by omega), hrg]
    exact hg _ _ _ _ hx H
end YT_1
