/-! Y: the substitution's loop, the next line -/
section YU_1
variable {Yquiet Yfuel YscrLen YinpLen YhasTab YnCmd YoutLen YpatLen YholdLen YlinesRead YstepsUsed Ytflag YnAddr Ya1K Ya1V Ya2K Ya2V Ycc YlabS YlabL YsRe YsRep YadK YadV Yneg YsG YicN Yna YanS YanE YmJ YrLen : Int32} {Yscr Yinp YcmdPos Yout Ypat Yhold Yactive Yact Yic Yie YaC YaAny YaSt Yrch Ynx Yrb : Nat → Int32}
theorem ym_s58 {L n k rp rn : Nat} {g : Nat × Nat × Nat × Nat × (Nat → Int32) × (Nat → Int32)} {ev : Int32} {tr : Nat × List Int32 × Int32} {post : Int32 → SY → Prop} (hL : L ≤ 128) (hc : ch_ok Yscr L) (hn : n ≤ 64) (h12 : g.2.2.2.1 ≤ 12) (hS : g.2.1 ≤ 1) (hE : g.2.2.1 ≤ 1) (hH : ya_H YaC YaAny YaSt (g.2.2.2.1, g.2.2.2.2.1, g.2.2.2.2.2)) (htx : tx_n Yscr L rp = some rn) (hrn : rn ≤ 128) (hic : ∀ t, t < rn → Yic t = tx_c Yscr (tx_p Yscr rp t) ∧ Yie t = tx_e Yscr (tx_p Yscr rp t))
    (h0 : tr.2.2 = 0 → ∀ mj rl rch nx rb, post (nI (k + 1)) (Yquiet, Yfuel, YscrLen, YinpLen, YhasTab, YnCmd, YoutLen, nI n, YholdLen, YlinesRead, YstepsUsed, Ytflag, YnAddr, Ya1K, Ya1V, Ya2K, Ya2V, Ycc, YlabS, YlabL, YsRe, YsRep, YadK, YadV, Yneg, ev, nI rn, nI g.2.2.2.1, nI g.2.1, nI g.2.2.1, mj, rl, Yscr, Yinp, YcmdPos, Yout, Ypat, Yhold, Yactive, Yact, Yic, Yie, YaC, YaAny, YaSt, rch, nx, rb))
    (h1 : ¬ tr.2.2 = 0 → 64 < (tr.2.1 ++ sl_x Ypat tr.1 (n - tr.1)).length → ∀ mj rl rch nx rb, post (-13) (Yquiet, Yfuel, YscrLen, YinpLen, YhasTab, YnCmd, YoutLen, nI n, YholdLen, YlinesRead, YstepsUsed, Ytflag, YnAddr, Ya1K, Ya1V, Ya2K, Ya2V, Ycc, YlabS, YlabL, YsRe, YsRep, YadK, YadV, Yneg, ev, nI rn, nI g.2.2.2.1, nI g.2.1, nI g.2.2.1, mj, rl, Yscr, Yinp, YcmdPos, Yout, Ypat, Yhold, Yactive, Yact, Yic, Yie, YaC, YaAny, YaSt, rch, nx, rb))
    (h2 : ¬ tr.2.2 = 0 → ¬ 64 < (tr.2.1 ++ sl_x Ypat tr.1 (n - tr.1)).length → ∀ mj rl rch nx rb, post (nI (k + 1)) (Yquiet, Yfuel, YscrLen, YinpLen, YhasTab, YnCmd, YoutLen, nI (tr.2.1 ++ sl_x Ypat tr.1 (n - tr.1)).length, YholdLen, YlinesRead, YstepsUsed, 1, YnAddr, Ya1K, Ya1V, Ya2K, Ya2V, Ycc, YlabS, YlabL, YsRe, YsRep, YadK, YadV, Yneg, ev, nI rn, nI g.2.2.2.1, nI g.2.1, nI g.2.2.1, mj, rl, Yscr, Yinp, YcmdPos, Yout, cp_y (sb_f (tr.2.1 ++ sl_x Ypat tr.1 (n - tr.1))) 0 Ypat 0 (tr.2.1 ++ sl_x Ypat tr.1 (n - tr.1)).length, Yhold, Yactive, Yact, Yic, Yie, YaC, YaAny, YaSt, rch, nx, rb)) :
    ∀ f p R tk mj rch nx rb, p ≤ n → 65 ≤ p + f → f ≤ 65 → R.length ≤ (65 - f) * 8400 → rl_h rb R → sb_x Yscr L Ypat n g rp rn ev f p R tk = tr → wY_subst_58 post (nI k) (nI n) (f + 1) (nI p) tk (nI (65 - f)) Yquiet Yfuel YscrLen YinpLen YhasTab YnCmd YoutLen (nI n) YholdLen YlinesRead YstepsUsed Ytflag YnAddr Ya1K Ya1V Ya2K Ya2V Ycc YlabS YlabL YsRe YsRep YadK YadV Yneg ev (nI rn) (nI g.2.2.2.1) (nI g.2.1) (nI g.2.2.1) mj (nI R.length) Yscr Yinp YcmdPos Yout Ypat Yhold Yactive Yact Yic Yie YaC YaAny YaSt rch nx rb := by
  intro f
  induction f with
  | zero => intro p R tk mj rch nx rb hp hf; omega
  | succ f ih =>
  intro p R tk mj rch nx rb hp hpf hf65 hR hr hsb
  have fin : ∀ p' R' tk' mj' rch' nx' rb', (p', R', tk') = tr → p' ≤ n + 1 → R'.length ≤ 65 * 8400 → rl_h rb' R' → wY_subst_237 post (nI k) (nI n) (nI p') tk' Yquiet Yfuel YscrLen YinpLen YhasTab YnCmd YoutLen (nI n) YholdLen YlinesRead YstepsUsed Ytflag YnAddr Ya1K Ya1V Ya2K Ya2V Ycc YlabS YlabL YsRe YsRep YadK YadV Yneg ev (nI rn) (nI g.2.2.2.1) (nI g.2.1) (nI g.2.2.1) mj' (nI R'.length) Yscr Yinp YcmdPos Yout Ypat Yhold Yactive Yact Yic Yie YaC YaAny YaSt rch' nx' rb' := by
    intro p' R' tk' mj' rch' nx' rb' e hp' hR' hr'
    rw [← e] at h0 h1 h2
    exact ym_237 hn hp' (by omega) hr' (fun z rl rb => h0 z _ rl _ _ rb) (fun z w rl rb => h1 z w _ rl _ _ rb) (fun z w rl rb => h2 z w _ rl _ _ rb)
  have len : R.length ≤ 64 * 8400 := Nat.le_trans hR (Nat.mul_le_mul_right _ (by omega))
  refine br_f (nI_nlt (a := 65) (by omega) (by decide)) ?_
  refine ym_firstMatch hn (by omega) h12 hS hE hH (fun mj' rch' nx' hmj => ?_)
  rw [sb_x] at hsb
  cases hm : mt_1 Ypat n g.2.2.2.2.1 g.2.2.2.2.2 g.2.2.2.1 g.2.1 g.2.2.1 p with
  | none =>
    rw [hm] at hsb
    exact br_f (by decide) (fin p R tk _ _ _ _ hsb (by omega) (by omega) hr)
  | some r =>
    rw [hm] at hsb
    dsimp only at hsb
    obtain ⟨q1, q2, q3, q4⟩ := mt_1_f hm
    have emj := hmj r hm
    subst emj
    refine br_t (nI_pos' (by omega)) ?_
    refine ym_putRange (by omega) (by omega) hr (by omega) (fun rb1 hr1 => ⟨rn + 1, ?_⟩)
    have e0 : (R ++ sl_x Ypat p (r.1 - p)).length < 2 ^ 28 := by rw [List.length_append, sl_len]; omega
    have e1 : R ++ sl_x Ypat p (r.1 - p) ++ sl_r Yscr Ypat rp r.1 r.2 0 = R ++ sl_x Ypat p (r.1 - p) := List.append_nil _
    suffices hs : ∀ rb, rl_h rb (R ++ sl_x Ypat p (r.1 - p) ++ sl_r Yscr Ypat rp r.1 r.2 rn) → wY_subst_168 post (wY_subst_58 post (nI k) (nI n) (f + 1)) (nI k) (nI n) 1 (nI (65 - (f + 1))) (nI r.1) (nI r.2) Yquiet Yfuel YscrLen YinpLen YhasTab YnCmd YoutLen (nI n) YholdLen YlinesRead YstepsUsed Ytflag YnAddr Ya1K Ya1V Ya2K Ya2V Ycc YlabS YlabL YsRe YsRep YadK YadV Yneg ev (nI rn) (nI g.2.2.2.1) (nI g.2.1) (nI g.2.2.1) (nI r.2) (nI (R ++ sl_x Ypat p (r.1 - p) ++ sl_r Yscr Ypat rp r.1 r.2 rn).length) Yscr Yinp YcmdPos Yout Ypat Yhold Yactive Yact Yic Yie YaC YaAny YaSt rch' nx' rb by
      have go := ym_101 hL hc hn q2 q3 e0 htx hrn hic hs (rn + 1) 0 rb1 (by omega) (by omega) (by rw [e1]; exact hr1)
      rw [e1] at go
      exact go
    intro rb2 hr2
    have h213 : ∀ p' R' rb', (p' = if r.2 = r.1 then r.1 + 1 else r.2) → R' = R ++ sl_x Ypat p (r.1 - p) ++ sl_r Yscr Ypat rp r.1 r.2 rn ++ (if r.2 = r.1 ∧ r.1 < n then [Ypat r.1] else []) → rl_h rb' R' → wY_subst_213 post (wY_subst_58 post (nI k) (nI n) (f + 1)) (nI k) (nI n) (nI p') 1 (nI (65 - (f + 1))) Yquiet Yfuel YscrLen YinpLen YhasTab YnCmd YoutLen (nI n) YholdLen YlinesRead YstepsUsed Ytflag YnAddr Ya1K Ya1V Ya2K Ya2V Ycc YlabS YlabL YsRe YsRep YadK YadV Yneg ev (nI rn) (nI g.2.2.2.1) (nI g.2.1) (nI g.2.2.1) (nI r.2) (nI R'.length) Yscr Yinp YcmdPos Yout Ypat Yhold Yactive Yact Yic Yie YaC YaAny YaSt rch' nx' rb' := by
      intro p' R' rb' ep eR hr'
      have hp'1 : p' ≤ n + 1 := by rw [ep]; split <;> omega
      have hp'2 : p < p' := by rw [ep]; split <;> omega
      have hl : R'.length ≤ R.length + 8400 := by
        have := sb_len (s := Yscr) (T := Ypat) (n := n) (rp := rp) (rn := rn) (p := p) (R := R) (r := r) hn hrn ⟨q2, q3⟩
        unfold sb_R at this
        rw [← eR] at this
        exact this
      have hl2 : R'.length ≤ (65 - f) * 8400 := by
        have : (65 - f) * 8400 = (65 - (f + 1)) * 8400 + 8400 := by
          rw [show 65 - f = (65 - (f + 1)) + 1 by omega, Nat.succ_mul]
        omega
      have last : (ev = 0 ∨ (r.2 = r.1 ∧ r.1 = n)) → wY_subst_237 post (nI k) (nI n) (nI p') 1 Yquiet Yfuel YscrLen YinpLen YhasTab YnCmd YoutLen (nI n) YholdLen YlinesRead YstepsUsed Ytflag YnAddr Ya1K Ya1V Ya2K Ya2V Ycc YlabS YlabL YsRe YsRep YadK YadV Yneg ev (nI rn) (nI g.2.2.2.1) (nI g.2.1) (nI g.2.2.1) (nI r.2) (nI R'.length) Yscr Yinp YcmdPos Yout Ypat Yhold Yactive Yact Yic Yie YaC YaAny YaSt rch' nx' rb' := by
        intro hh
        rw [if_pos hh, ← ep, ← eR] at hsb
        exact fin p' R' 1 _ _ _ _ hsb hp'1 (by omega) hr'
      refine br_c (fun z => last (Or.inl z)) (fun z => pk_eq p' (n + 1) (fun w => last (Or.inr ?_)) (fun w => ?_) (hy := by rw [nI_1]))
      · rw [w] at ep
        by_cases y : r.2 = r.1
        · rw [if_pos y] at ep; exact ⟨y, by omega⟩
        · rw [if_neg y] at ep; omega
      · have hh : ¬ (ev = 0 ∨ (r.2 = r.1 ∧ r.1 = n)) := fun y => by
          rcases y with y | y
          · exact z y
          · rw [if_pos y.1] at ep; omega
        rw [if_neg hh, ← ep, ← eR] at hsb
        refine nm_r (show nI (65 - (f + 1)) + 1 = nI (65 - f) from by rw [nI_1, show 65 - (f + 1) + 1 = 65 - f by omega]) ?_
        exact ih p' R' 1 _ _ _ _ (by omega) (by omega) (by omega) hl2 hr' hsb
    refine pk_le r.2 r.1 (fun w => pk_le n r.1 (fun w2 => nm_r (nI_1 n) ?_) (fun w2 => ⟨vp_in_nI (by omega) (by omega), ?_⟩)) (fun w => ?_)
    · exact h213 (n + 1) _ rb2 (by rw [if_pos (by omega)]; omega) (by rw [if_neg (by omega)]; exact (List.append_nil _).symm) hr2
    · rw [nI_clamp (by omega)]
      have l2 : (R ++ sl_x Ypat p (r.1 - p) ++ sl_r Yscr Ypat rp r.1 r.2 rn).length < 2 ^ 30 := by
        have a := sl_rlen Yscr Ypat rp r.1 r.2 rn
        have b : rn * (r.2 - r.1 + 1) ≤ 128 * 65 := Nat.mul_le_mul hrn (by omega)
        rw [List.length_append]
        omega
      refine ym_put l2 hr2 (fun rb3 hr3 => nm_r (nI_1 _) ?_)
      exact h213 (r.1 + 1) _ rb3 (by rw [if_pos (by omega)]) (by rw [if_pos (show r.2 = r.1 ∧ r.1 < n by omega)]) hr3
    · exact h213 r.2 _ rb2 (by rw [if_neg (by omega)]) (by rw [if_neg (by omega)]; exact (List.append_nil _).symm) hr2
theorem ym_subst {L n k : Nat} {d : cm_T} {Mout Mhold Mac : Nat → Int32} {Mo Mh Mm Mq Mst : Nat} {Mt : Int32} {post : Int32 → SY → Prop} (hL : L ≤ 128) (hc : ch_ok Yscr L) (hn : n ≤ 64) (hre : d.2.2.1.2.1.1 ≤ L) (hrp : d.2.2.1.2.1.2.1 ≤ L) (hx : ∃ g, rg_x Yscr L d.2.2.1.2.1.1 = some g) (htx : tx_n Yscr L d.2.2.1.2.1.2.1 = some d.2.2.1.2.1.2.2.1)
    (h : ∀ r n' pat' t' icN na anS anE mj rl ic ie aC aAny aSt rch nx rb, rn_sub Yscr L d (Mout, Mo, Ypat, n, Mhold, Mh, Mm, Mq, Mst, Ytflag, Mac) = (r, (Mout, Mo, pat', n', Mhold, Mh, Mm, Mq, Mst, t', Mac)) → (r = -1 ∨ r = 3) → post (if r = -1 then nI (k + 1) else -13) (Yquiet, Yfuel, nI L, YinpLen, YhasTab, YnCmd, YoutLen, nI n', YholdLen, YlinesRead, YstepsUsed, t', YnAddr, Ya1K, Ya1V, Ya2K, Ya2V, Ycc, YlabS, YlabL, nI d.2.2.1.2.1.1, nI d.2.2.1.2.1.2.1, YadK, YadV, Yneg, d.2.2.1.2.1.2.2.2, icN, na, anS, anE, mj, rl, Yscr, Yinp, YcmdPos, Yout, pat', Yhold, Yactive, Yact, ic, ie, aC, aAny, aSt, rch, nx, rb)) :
    wpY_subst post (Yquiet, Yfuel, nI L, YinpLen, YhasTab, YnCmd, YoutLen, nI n, YholdLen, YlinesRead, YstepsUsed, Ytflag, YnAddr, Ya1K, Ya1V, Ya2K, Ya2V, Ycc, YlabS, YlabL, nI d.2.2.1.2.1.1, nI d.2.2.1.2.1.2.1, YadK, YadV, Yneg, d.2.2.1.2.1.2.2.2, YicN, Yna, YanS, YanE, YmJ, YrLen, Yscr, Yinp, YcmdPos, Yout, Ypat, Yhold, Yactive, Yact, Yic, Yie, YaC, YaAny, YaSt, Yrch, Ynx, Yrb) (nI k) := by
  obtain ⟨g, hx⟩ := hx
  have f12 := rg_x_12 hx
  unfold wpY_subst
  refine ym_loadText hL hre ?_ ?_
  · intro n1 ic ie htx1 hic
    have ft := tx_facts n1 _ htx1
    refine br_f (nI_pos (by omega)) ?_
    refine ym_build hL hc htx1 hic ?_ ?_
    · intro g' aC aAny aSt hr hH
      rw [hx] at hr
      have eg := Option.some.inj hr
      subst eg
      refine br_f (by decide) ?_
      refine ym_loadText hL hrp ?_ ?_
      · intro rn ic2 ie2 htx2 hic2
        rw [htx] at htx2
        have en := Option.some.inj htx2
        subst en
        have ft2 := tx_facts _ _ htx
        have pg := tx_p_ge Yscr d.2.2.1.2.1.2.1 d.2.2.1.2.1.2.2.1
        refine br_t (nI_pos' (by omega)) ⟨66, ?_⟩
        unfold rn_sub at h
        dsimp only at h
        rw [hx] at h
        dsimp only at h
        refine ym_s58 (f := 65) (tr := sb_x Yscr L Ypat n g d.2.2.1.2.1.2.1 d.2.2.1.2.1.2.2.1 d.2.2.1.2.1.2.2.2 65 0 [] 0) hL hc hn f12.1 f12.2.2.1 f12.2.2.2 hH htx (by omega) hic2 ?_ ?_ ?_ 0 [] 0 YmJ Yrch Ynx Yrb (by omega) (by omega) (by omega) (Nat.zero_le _) (rl_0 _) rfl
        · intro z mj rl rch nx rb
          exact h (-1) n Ypat Ytflag _ _ _ _ mj rl _ _ _ _ _ rch nx rb (by rw [if_pos z]) (Or.inl rfl)
        · intro z w mj rl rch nx rb
          exact h 3 n Ypat Ytflag _ _ _ _ mj rl _ _ _ _ _ rch nx rb (by rw [if_neg z, if_pos w]) (Or.inr rfl)
        · intro z w mj rl rch nx rb
          exact h (-1) _ _ 1 _ _ _ _ mj rl _ _ _ _ _ rch nx rb (by rw [if_neg z, if_neg w]) (Or.inl rfl)
      · intro htx2
        rw [htx] at htx2
        exact absurd htx2 (by simp)
    · intro hr
      rw [hx] at hr
      exact absurd hr (by simp)
  · intro htx1
    unfold rg_x at hx
    rw [htx1] at hx
    exact absurd hx (by simp)
end YU_1
