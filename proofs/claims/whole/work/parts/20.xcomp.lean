/-! X's compile -/
section XC_1
variable {Xquiet Xfuel XscriptSize XinputSize Xcursor XitemCount XtablePresent XcommandCount XoutputSize XpatternSize XholdSize XlineNumber XstepCount XnextLine Xpointer Xsubstituted XresultSize : Int32} {Xscript Xinput Xitems Xverb Xnegated Xeverywhere XlabelStart XlabelSize Xtarget XreplacementStart XreplacementEnd Xreplacement Xaddress XstartAnchor XendAnchor XatomCount XatomChar XatomStarred Xoutput Xpattern Xhold XactivationLine Xresult : Nat → Int32}
theorem tx_TL {s : Nat → Int32} {L n : Nat} {vb ng ev lst lsz rst ren rep adr sa ea ac ach ast : Nat → Int32} (h : tx_T s L n vb ng ev lst lsz rst ren rep adr sa ea ac ach ast) : tx_L s L n vb lst lsz := fun k hk => ⟨(h k hk).1, (h k hk).2.2.2.2.2⟩
/-- one more command -/
theorem tx_Ts {L k : Nat} {s a_vb a_ng a_ev a_lst a_lsz a_rst a_ren a_rep a_adr a_sa a_ea a_ac a_ach a_ast ng ev lst lsz rst ren rep adr1 sa1 ea1 ac1 ach1 ast1 sa ea ac ach ast : Nat → Int32} {a : Nat × (Nat × Int32) × (Nat × Int32) × Int32 × Nat} {b : (Nat × Nat) × (Nat × Nat × Nat × Int32) × Nat}
    (hG : cq_G s L k) (hq : cq_Q s L k < L) (hca : cm_a s L (cq_Q s L k) = some a) (hx : cm_x s L (cq_Q s L k) = some (a, s a.2.2.2.2, b, cm_sk s L b.2.2))
    (hT : tx_T s L k a_vb a_ng a_ev a_lst a_lsz a_rst a_ren a_rep a_adr a_sa a_ea a_ac a_ach a_ast)
    (n1 : ng k = a.2.2.2.1) (n2 : ∀ i, ¬ i = k → ng i = a_ng i) (A1 : tb_A s L adr1 sa1 ea1 ac1 ach1 ast1 (k * 3) a.2.1.1 a.2.1.2) (A2 : tb_A s L adr1 sa1 ea1 ac1 ach1 ast1 (k * 3 + 1) a.2.2.1.1 a.2.2.1.2) (F1 : xf_B k a_adr a_sa a_ea a_ac a_ach a_ast adr1 sa1 ea1 ac1 ach1 ast1)
    (H : xv_H s L k a.2.2.2.2 b a_ev a_lst a_lsz a_rst a_ren a_rep adr1 sa1 ea1 ac1 ach1 ast1 ev lst lsz rst ren rep sa ea ac ach ast) :
    tx_T s L (k + 1) (upd a_vb k (s a.2.2.2.2)) ng ev lst lsz rst ren rep adr1 sa ea ac ach ast := by
  have ha := cm_a_f (Nat.le_of_lt hq) hca
  obtain ⟨v1, v2, v3, v4, v5⟩ := H
  have F2 := xf_BB F1 (xf_AB (k := k) (by omega) v5)
  intro j hj
  by_cases z : j = k
  · subst z
    rw [(cq_s hx).1]
    refine ⟨pk_us, n1, ?_, ?_, v1, v2⟩
    · have w := v5.1 (j * 3) (by omega)
      exact tb_A_fr w.1 w.2.1 w.2.2.1 w.2.2.2 (fun x h1 h2 => v5.2 x (Or.inl (by omega))) A1
    · have w := v5.1 (j * 3 + 1) (by omega)
      exact tb_A_fr w.1 w.2.1 w.2.2.1 w.2.2.2 (fun x h1 h2 => v5.2 x (Or.inl (by omega))) A2
  · have hj2 : j < k := by omega
    refine tb_X_fr (c := k) (q := a.2.2.2.2) ⟨fun i hi => ?_, fun i hi => v4 i hi, F2.1, F2.2⟩ hj2 ?_ (hT j hj2)
    · have w := v3 i (by omega)
      exact ⟨pk_un (by omega), n2 i (by omega), w.1, w.2.1, w.2.2.1, w.2.2.2.1, w.2.2.2.2⟩
    · obtain ⟨g1, g2⟩ := hG j hj2
      have f := cm_x_f (Nat.le_of_lt g1) g2
      have m := cq_mono k hG j hj2
      omega
/-- what X's compile leaves -/
def xc_K (u : SX) : Int32 × Int32 × Int32 × Int32 × Int32 × Int32 × Int32 × Int32 × Int32 × (Nat → Int32) × (Nat → Int32) × (Nat → Int32) × (Nat → Int32) × (Nat → Int32) := match u with
  | (Xquiet, Xfuel, XscriptSize, XinputSize, Xcursor, XitemCount, XtablePresent, XcommandCount, XoutputSize, XpatternSize, XholdSize, XlineNumber, XstepCount, XnextLine, Xpointer, Xsubstituted, XresultSize, Xscript, Xinput, Xitems, Xverb, Xnegated, Xeverywhere, XlabelStart, XlabelSize, Xtarget, XreplacementStart, XreplacementEnd, Xreplacement, Xaddress, XstartAnchor, XendAnchor, XatomCount, XatomChar, XatomStarred, Xoutput, Xpattern, Xhold, XactivationLine, Xresult) => (Xquiet, Xfuel, XscriptSize, XinputSize, XoutputSize, XpatternSize, XholdSize, XlineNumber, XstepCount, Xscript, Xinput, Xoutput, Xpattern, Xhold)
def xc_t (u : SX) : Int32 := match u with
  | (Xquiet, Xfuel, XscriptSize, XinputSize, Xcursor, XitemCount, XtablePresent, XcommandCount, XoutputSize, XpatternSize, XholdSize, XlineNumber, XstepCount, XnextLine, Xpointer, Xsubstituted, XresultSize, Xscript, Xinput, Xitems, Xverb, Xnegated, Xeverywhere, XlabelStart, XlabelSize, Xtarget, XreplacementStart, XreplacementEnd, Xreplacement, Xaddress, XstartAnchor, XendAnchor, XatomCount, XatomChar, XatomStarred, Xoutput, Xpattern, Xhold, XactivationLine, Xresult) => XtablePresent
theorem xm_104 {L n : Nat} {post : Int32 → SX → Prop} (hL : L ≤ 128) (hN : cq_N Xscript L n) (hT : tx_T Xscript L n Xverb Xnegated Xeverywhere XlabelStart XlabelSize XreplacementStart XreplacementEnd Xreplacement Xaddress XstartAnchor XendAnchor XatomCount XatomChar XatomStarred)
    (hg : lb_1 Xscript L n → lb_2 Xscript L n → ∀ tg, (∀ a, a < n → (lb_c Xscript L a = 98 ∨ lb_c Xscript L a = 116) → ∃ t, tg a = nI t ∧ lb_t Xscript L n a t) → post (nI n) (Xquiet, Xfuel, nI L, XinputSize, Xcursor, XitemCount, 1, nI n, XoutputSize, XpatternSize, XholdSize, XlineNumber, XstepCount, XnextLine, Xpointer, Xsubstituted, XresultSize, Xscript, Xinput, Xitems, Xverb, Xnegated, Xeverywhere, XlabelStart, XlabelSize, tg, XreplacementStart, XreplacementEnd, Xreplacement, Xaddress, XstartAnchor, XendAnchor, XatomCount, XatomChar, XatomStarred, Xoutput, Xpattern, Xhold, XactivationLine, Xresult))
    (hb : ¬ (lb_1 Xscript L n ∧ lb_2 Xscript L n) → ∀ tg, post (-1) (Xquiet, Xfuel, nI L, XinputSize, Xcursor, XitemCount, XtablePresent, nI n, XoutputSize, XpatternSize, XholdSize, XlineNumber, XstepCount, XnextLine, Xpointer, Xsubstituted, XresultSize, Xscript, Xinput, Xitems, Xverb, Xnegated, Xeverywhere, XlabelStart, XlabelSize, tg, XreplacementStart, XreplacementEnd, Xreplacement, Xaddress, XstartAnchor, XendAnchor, XatomCount, XatomChar, XatomStarred, Xoutput, Xpattern, Xhold, XactivationLine, Xresult)) :
    wX_compile_104 post 1 Xquiet Xfuel (nI L) XinputSize Xcursor XitemCount XtablePresent (nI n) XoutputSize XpatternSize XholdSize XlineNumber XstepCount XnextLine Xpointer Xsubstituted XresultSize Xscript Xinput Xitems Xverb Xnegated Xeverywhere XlabelStart XlabelSize Xtarget XreplacementStart XreplacementEnd Xreplacement Xaddress XstartAnchor XendAnchor XatomCount XatomChar XatomStarred Xoutput Xpattern Xhold XactivationLine Xresult := by
  obtain ⟨g1, g2, g3⟩ := hN
  refine br_f (by decide) ?_
  refine xm_differ hL g1 g3 (tx_TL hT) (fun h1 => br_f (by decide) ?_) (fun h1 => br_t rfl (hb (fun y => h1 y.1) _))
  exact xm_targets hL g1 g3 (tx_TL hT) (fun h2 tg htg => br_f (by decide) (hg h1 h2 tg htg)) (fun h2 tg => br_t rfl (hb (fun y => h2 y.2) tg))
theorem xm_23 {L : Nat} {post : Int32 → SX → Prop} (hL : L ≤ 128) (hc : ch_ok Xscript L)
    (hg : ∀ n u, cq_N Xscript L n → lb_1 Xscript L n → lb_2 Xscript L n → (match u with | (Xquiet1, Xfuel1, XscriptSize1, XinputSize1, Xcursor1, XitemCount1, XtablePresent1, XcommandCount1, XoutputSize1, XpatternSize1, XholdSize1, XlineNumber1, XstepCount1, XnextLine1, Xpointer1, Xsubstituted1, XresultSize1, Xscript1, Xinput1, Xitems1, Xverb1, Xnegated1, Xeverywhere1, XlabelStart1, XlabelSize1, Xtarget1, XreplacementStart1, XreplacementEnd1, Xreplacement1, Xaddress1, XstartAnchor1, XendAnchor1, XatomCount1, XatomChar1, XatomStarred1, Xoutput1, Xpattern1, Xhold1, XactivationLine1, Xresult1) => xc_K u = xc_K (Xquiet, Xfuel, nI L, XinputSize, Xcursor, XitemCount, XtablePresent, XcommandCount, XoutputSize, XpatternSize, XholdSize, XlineNumber, XstepCount, XnextLine, Xpointer, Xsubstituted, XresultSize, Xscript, Xinput, Xitems, Xverb, Xnegated, Xeverywhere, XlabelStart, XlabelSize, Xtarget, XreplacementStart, XreplacementEnd, Xreplacement, Xaddress, XstartAnchor, XendAnchor, XatomCount, XatomChar, XatomStarred, Xoutput, Xpattern, Xhold, XactivationLine, Xresult) ∧ XtablePresent1 = 1 ∧ XcommandCount1 = nI n ∧ tx_T Xscript L n Xverb1 Xnegated1 Xeverywhere1 XlabelStart1 XlabelSize1 XreplacementStart1 XreplacementEnd1 Xreplacement1 Xaddress1 XstartAnchor1 XendAnchor1 XatomCount1 XatomChar1 XatomStarred1 ∧ (∀ a, a < n → (lb_c Xscript L a = 98 ∨ lb_c Xscript L a = 116) → ∃ t, Xtarget1 a = nI t ∧ lb_t Xscript L n a t)) → post (nI n) u)
    (hb : (∀ n, cq_N Xscript L n → ¬ (lb_1 Xscript L n ∧ lb_2 Xscript L n)) → ∀ u, xc_K u = xc_K (Xquiet, Xfuel, nI L, XinputSize, Xcursor, XitemCount, XtablePresent, XcommandCount, XoutputSize, XpatternSize, XholdSize, XlineNumber, XstepCount, XnextLine, Xpointer, Xsubstituted, XresultSize, Xscript, Xinput, Xitems, Xverb, Xnegated, Xeverywhere, XlabelStart, XlabelSize, Xtarget, XreplacementStart, XreplacementEnd, Xreplacement, Xaddress, XstartAnchor, XendAnchor, XatomCount, XatomChar, XatomStarred, Xoutput, Xpattern, Xhold, XactivationLine, Xresult) → xc_t u = 0 → post (-1) u) :
    ∀ f k, 17 - k < f → k ≤ 16 → cq_G Xscript L k → ∀ Xcursor XitemCount Xitems Xverb Xnegated Xeverywhere XlabelStart XlabelSize Xtarget XreplacementStart XreplacementEnd Xreplacement Xaddress XstartAnchor XendAnchor XatomCount XatomChar XatomStarred, Xcursor = nI (cq_Q Xscript L k) → tx_T Xscript L k Xverb Xnegated Xeverywhere XlabelStart XlabelSize XreplacementStart XreplacementEnd Xreplacement Xaddress XstartAnchor XendAnchor XatomCount XatomChar XatomStarred → wX_compile_23 post f 1 (nI k) Xquiet Xfuel (nI L) XinputSize Xcursor XitemCount 0 (nI k) XoutputSize XpatternSize XholdSize XlineNumber XstepCount XnextLine Xpointer Xsubstituted XresultSize Xscript Xinput Xitems Xverb Xnegated Xeverywhere XlabelStart XlabelSize Xtarget XreplacementStart XreplacementEnd Xreplacement Xaddress XstartAnchor XendAnchor XatomCount XatomChar XatomStarred Xoutput Xpattern Xhold XactivationLine Xresult := by
  intro f
  induction f with
  | zero => intro k h; omega
  | succ f ih =>
  intro k hf hk hG Xcursor XitemCount Xitems Xverb Xnegated Xeverywhere XlabelStart XlabelSize Xtarget XreplacementStart XreplacementEnd Xreplacement Xaddress XstartAnchor XendAnchor XatomCount XatomChar XatomStarred hcur hT
  subst hcur
  have hQ := cq_Q_le Xscript L k
  refine br_f (nI_nlt (a := 16) (b := k) hk (by decide)) (br_f (by decide) (pk_le L (cq_Q Xscript L k) (fun w => ?_) (fun w => ?_)))
  · refine xm_104 hL ⟨hG, w, hk⟩ hT (fun h1 h2 tg htg => ?_) (fun hn tg => ?_)
    · exact hg k _ ⟨hG, w, hk⟩ h1 h2 ⟨rfl, rfl, rfl, hT, htg⟩
    · refine hb (fun n' hn' => ?_) _ rfl rfl
      have e : n' = k := by
        rcases Nat.lt_trichotomy n' k with z | z | z
        · have := (hG n' z).1; have := hn'.2.1; omega
        · exact z
        · have := (hn'.1 k z).1; omega
      rw [e]; exact hn
  · have fail : ∀ u : SX, (∀ n, ¬ cq_N Xscript L n) → xk_p u = (Xquiet, Xfuel, nI L, XinputSize, 0, nI k, XoutputSize, XpatternSize, XholdSize, XlineNumber, XstepCount, Xscript, Xinput, Xoutput, Xpattern, Xhold) → match u with | (Xquiet1, Xfuel1, XscriptSize1, XinputSize1, Xcursor1, XitemCount1, XtablePresent1, XcommandCount1, XoutputSize1, XpatternSize1, XholdSize1, XlineNumber1, XstepCount1, XnextLine1, Xpointer1, Xsubstituted1, XresultSize1, Xscript1, Xinput1, Xitems1, Xverb1, Xnegated1, Xeverywhere1, XlabelStart1, XlabelSize1, Xtarget1, XreplacementStart1, XreplacementEnd1, Xreplacement1, Xaddress1, XstartAnchor1, XendAnchor1, XatomCount1, XatomChar1, XatomStarred1, Xoutput1, Xpattern1, Xhold1, XactivationLine1, Xresult1) => wX_compile_78 post (wX_compile_23 post f) (nI k) Xquiet1 Xfuel1 XscriptSize1 XinputSize1 Xcursor1 XitemCount1 XtablePresent1 XcommandCount1 XoutputSize1 XpatternSize1 XholdSize1 XlineNumber1 XstepCount1 XnextLine1 Xpointer1 Xsubstituted1 XresultSize1 Xscript1 Xinput1 Xitems1 Xverb1 Xnegated1 Xeverywhere1 XlabelStart1 XlabelSize1 Xtarget1 XreplacementStart1 XreplacementEnd1 Xreplacement1 Xaddress1 XstartAnchor1 XendAnchor1 XatomCount1 XatomChar1 XatomStarred1 Xoutput1 Xpattern1 Xhold1 XactivationLine1 Xresult1 := by
      intro u hn hu
      obtain ⟨Xquiet1, Xfuel1, XscriptSize1, XinputSize1, Xcursor1, XitemCount1, XtablePresent1, XcommandCount1, XoutputSize1, XpatternSize1, XholdSize1, XlineNumber1, XstepCount1, XnextLine1, Xpointer1, Xsubstituted1, XresultSize1, Xscript1, Xinput1, Xitems1, Xverb1, Xnegated1, Xeverywhere1, XlabelStart1, XlabelSize1, Xtarget1, XreplacementStart1, XreplacementEnd1, Xreplacement1, Xaddress1, XstartAnchor1, XendAnchor1, XatomCount1, XatomChar1, XatomStarred1, Xoutput1, Xpattern1, Xhold1, XactivationLine1, Xresult1⟩ := u
      refine br_t rfl (nm_r (nI_1 k) ?_)
      have hp : post (-1) (Xquiet1, Xfuel1, XscriptSize1, XinputSize1, Xcursor1, XitemCount1, XtablePresent1, XcommandCount1, XoutputSize1, XpatternSize1, XholdSize1, XlineNumber1, XstepCount1, XnextLine1, Xpointer1, Xsubstituted1, XresultSize1, Xscript1, Xinput1, Xitems1, Xverb1, Xnegated1, Xeverywhere1, XlabelStart1, XlabelSize1, Xtarget1, XreplacementStart1, XreplacementEnd1, Xreplacement1, Xaddress1, XstartAnchor1, XendAnchor1, XatomCount1, XatomChar1, XatomStarred1, Xoutput1, Xpattern1, Xhold1, XactivationLine1, Xresult1) := by
        refine hb (fun n h => absurd h (hn n)) _ ?_ ?_
        · unfold xk_p at hu
          unfold xc_K
          simp only [Prod.mk.injEq] at hu ⊢
          obtain ⟨u1, u2, u3, u4, u5, u6, u7, u8, u9, u10, u11, u12, u13, u14, u15, u16⟩ := hu
          exact ⟨u1, u2, u3, u4, u7, u8, u9, u10, u11, u12, u13, u14, u15, u16⟩
        · unfold xk_p at hu
          simp only [Prod.mk.injEq] at hu
          exact hu.2.2.2.2.1
      cases f with
      | zero => omega
      | succ f =>
        refine br_c (fun _ => br_t rfl hp) (fun _ => br_t rfl (br_t rfl hp))
    refine pk_le 16 k (fun w16 => ?_) (fun w16 => ?_)
    · exact fail (Xquiet, Xfuel, nI L, XinputSize, nI (cq_Q Xscript L k), XitemCount, 0, nI k, XoutputSize, XpatternSize, XholdSize, XlineNumber, XstepCount, XnextLine, Xpointer, Xsubstituted, XresultSize, Xscript, Xinput, Xitems, Xverb, Xnegated, Xeverywhere, XlabelStart, XlabelSize, Xtarget, XreplacementStart, XreplacementEnd, Xreplacement, Xaddress, XstartAnchor, XendAnchor, XatomCount, XatomChar, XatomStarred, Xoutput, Xpattern, Xhold, XactivationLine, Xresult) (cq_b16 hG w w16) rfl
    · refine xm_addrPart hL hc (by omega) w ?_ ?_
      · intro a it ic ng adr sa ea ac ach ast hca n1 n2 A1 A2 F1
        have fa := cm_a_f hQ hca
        have hna : adr (k * 3) = 0 ↔ a.1 = 0 := by
          have t : (a.1 = 0 ∧ a.2.1.1 = 0) ∨ (¬ a.1 = 0 ∧ ¬ a.2.1.1 = 0) := by
            unfold cm_a at hca
            split at hca
            · cases e : ad_x Xscript L (cq_Q Xscript L k) with
              | none => rw [e] at hca; exact absurd hca (by simp)
              | some a0 =>
                rw [e] at hca
                have nz : ¬ a0.1 = 0 := by
                  unfold ad_x at e
                  split at e
                  · exact absurd e (by simp)
                  · split at e
                    · rw [← Option.some.inj e]; exact (by decide : ¬ (2 : Nat) = 0)
                    · split at e
                      · cases e2 : rg_x Xscript L (cq_Q Xscript L k + 1) with
                        | none => rw [e2] at e; exact absurd e (by simp)
                        | some r => rw [e2] at e; rw [← Option.some.inj e]; exact (by decide : ¬ (3 : Nat) = 0)
                      · split at e
                        · cases e2 : nu_x Xscript L (cq_Q Xscript L k) with
                          | none => rw [e2] at e; exact absurd e (by simp)
                          | some r => rw [e2] at e; rw [← Option.some.inj e]; exact (by decide : ¬ (1 : Nat) = 0)
                        · exact absurd e (by simp)
                dsimp only [Option.bind] at hca
                split at hca
                · cases e3 : ad_x Xscript L (cm_sk Xscript L (cm_sk Xscript L a0.2.2 + 1)) with
                  | none => rw [e3] at hca; exact absurd hca (by simp)
                  | some b0 => rw [e3] at hca; rw [← Option.some.inj hca]; exact Or.inr ⟨(by decide : ¬ (2 : Nat) = 0), nz⟩
                · rw [← Option.some.inj hca]; exact Or.inr ⟨(by decide : ¬ (1 : Nat) = 0), nz⟩
            · rw [← Option.some.inj hca]; exact Or.inl ⟨rfl, rfl⟩
          rcases t with ⟨t1, t2⟩ | ⟨t1, t2⟩
          · rcases A1 with ⟨_, y⟩ | ⟨y, _⟩ | ⟨y, _⟩ | ⟨y, _⟩
            · exact ⟨fun _ => t1, fun _ => y⟩
            · omega
            · omega
            · omega
          · refine ⟨fun y => ?_, fun y => absurd y t1⟩
            rcases A1 with ⟨y0, _⟩ | ⟨_, y1, m, m1, m2, y2⟩ | ⟨_, y1⟩ | ⟨_, y1, _⟩
            · exact absurd y0 t2
            · rw [y1, y2] at y; exact absurd y (nI_ne0 (by omega) (by omega))
            · rw [y1] at y; exact absurd y (by decide)
            · rw [y1] at y; exact absurd y (by decide)
        refine br_f (by decide) ?_
        refine xm_verb hL hc (by omega) fa.2 hna ?_ ?_
        · intro b it' ic' ev lst lsz rst ren rep sa' ea' ac' ach' ast' hcb hlt H
          have fb := cm_b_f hcb
          refine br_f (by decide) ?_
          refine xm_cmdEnd (k := k) hL hc fb.2 ?_ ?_
          · intro hw
            have hx : cm_x Xscript L (cq_Q Xscript L k) = some (a, Xscript a.2.2.2.2, b, cm_sk Xscript L b.2.2) := by
              unfold cm_x
              rw [hca]
              dsimp only [Option.bind]
              rw [hcb]
              exact if_neg hw
            have fs := cm_sk_f (s := Xscript) fb.2
            refine br_f (by decide) (br_f (by decide) (nm_r (nI_1 k) ?_))
            refine xm_skipSep hL fs.2 ?_
            refine nm_r (nI_1 k) ?_
            exact ih (k + 1) (by omega) (by omega) (cq_Gs hG w hx) _ _ _ _ _ _ _ _ _ _ _ _ _ _ _ _ _ _ (by rw [(cq_s hx).2]) (tx_Ts hG w hca hx hT n1 n2 A1 A2 F1 H)
          · intro hw
            refine br_t rfl ?_
            refine fail (Xquiet, Xfuel, nI L, XinputSize, nI (cm_sk Xscript L b.2.2), ic', 0, nI k, XoutputSize, XpatternSize, XholdSize, XlineNumber, XstepCount, XnextLine, Xpointer, Xsubstituted, XresultSize, Xscript, Xinput, it', upd Xverb k (Xscript a.2.2.2.2), ng, ev, lst, lsz, Xtarget, rst, ren, rep, adr, sa', ea', ac', ach', ast', Xoutput, Xpattern, Xhold, XactivationLine, Xresult) (cq_bx hG w ?_) rfl
            unfold cm_x
            rw [hca]
            dsimp only [Option.bind]
            rw [hcb]
            exact if_pos hw
        · intro hcb v hv
          obtain ⟨Xquiet2, Xfuel2, XscriptSize2, XinputSize2, Xcursor2, XitemCount2, XtablePresent2, XcommandCount2, XoutputSize2, XpatternSize2, XholdSize2, XlineNumber2, XstepCount2, XnextLine2, Xpointer2, Xsubstituted2, XresultSize2, Xscript2, Xinput2, Xitems2, Xverb2, Xnegated2, Xeverywhere2, XlabelStart2, XlabelSize2, Xtarget2, XreplacementStart2, XreplacementEnd2, Xreplacement2, Xaddress2, XstartAnchor2, XendAnchor2, XatomCount2, XatomChar2, XatomStarred2, Xoutput2, Xpattern2, Xhold2, XactivationLine2, Xresult2⟩ := v
          refine br_t rfl ?_
          refine fail (Xquiet2, Xfuel2, XscriptSize2, XinputSize2, Xcursor2, XitemCount2, XtablePresent2, XcommandCount2, XoutputSize2, XpatternSize2, XholdSize2, XlineNumber2, XstepCount2, XnextLine2, Xpointer2, Xsubstituted2, XresultSize2, Xscript2, Xinput2, Xitems2, Xverb2, Xnegated2, Xeverywhere2, XlabelStart2, XlabelSize2, Xtarget2, XreplacementStart2, XreplacementEnd2, Xreplacement2, Xaddress2, XstartAnchor2, XendAnchor2, XatomCount2, XatomChar2, XatomStarred2, Xoutput2, Xpattern2, Xhold2, XactivationLine2, Xresult2) (cq_bx hG w ?_) hv
          unfold cm_x
          rw [hca]
          dsimp only [Option.bind]
          rw [hcb]
      · intro hca v hv
        obtain ⟨Xquiet2, Xfuel2, XscriptSize2, XinputSize2, Xcursor2, XitemCount2, XtablePresent2, XcommandCount2, XoutputSize2, XpatternSize2, XholdSize2, XlineNumber2, XstepCount2, XnextLine2, Xpointer2, Xsubstituted2, XresultSize2, Xscript2, Xinput2, Xitems2, Xverb2, Xnegated2, Xeverywhere2, XlabelStart2, XlabelSize2, Xtarget2, XreplacementStart2, XreplacementEnd2, Xreplacement2, Xaddress2, XstartAnchor2, XendAnchor2, XatomCount2, XatomChar2, XatomStarred2, Xoutput2, Xpattern2, Xhold2, XactivationLine2, Xresult2⟩ := v
        refine br_t rfl ?_
        refine fail (Xquiet2, Xfuel2, XscriptSize2, XinputSize2, Xcursor2, XitemCount2, XtablePresent2, XcommandCount2, XoutputSize2, XpatternSize2, XholdSize2, XlineNumber2, XstepCount2, XnextLine2, Xpointer2, Xsubstituted2, XresultSize2, Xscript2, Xinput2, Xitems2, Xverb2, Xnegated2, Xeverywhere2, XlabelStart2, XlabelSize2, Xtarget2, XreplacementStart2, XreplacementEnd2, Xreplacement2, Xaddress2, XstartAnchor2, XendAnchor2, XatomCount2, XatomChar2, XatomStarred2, Xoutput2, Xpattern2, Xhold2, XactivationLine2, Xresult2) (cq_bx hG w ?_) hv
        unfold cm_x
        rw [hca]
        rfl
theorem xm_compile {L : Nat} {post : Int32 → SX → Prop} (hL : L ≤ 128) (hc : ch_ok Xscript L)
    (hg : ∀ n u, cq_N Xscript L n → lb_1 Xscript L n → lb_2 Xscript L n → (match u with | (Xquiet1, Xfuel1, XscriptSize1, XinputSize1, Xcursor1, XitemCount1, XtablePresent1, XcommandCount1, XoutputSize1, XpatternSize1, XholdSize1, XlineNumber1, XstepCount1, XnextLine1, Xpointer1, Xsubstituted1, XresultSize1, Xscript1, Xinput1, Xitems1, Xverb1, Xnegated1, Xeverywhere1, XlabelStart1, XlabelSize1, Xtarget1, XreplacementStart1, XreplacementEnd1, Xreplacement1, Xaddress1, XstartAnchor1, XendAnchor1, XatomCount1, XatomChar1, XatomStarred1, Xoutput1, Xpattern1, Xhold1, XactivationLine1, Xresult1) => xc_K u = xc_K (Xquiet, Xfuel, nI L, XinputSize, Xcursor, XitemCount, XtablePresent, XcommandCount, XoutputSize, XpatternSize, XholdSize, XlineNumber, XstepCount, XnextLine, Xpointer, Xsubstituted, XresultSize, Xscript, Xinput, Xitems, Xverb, Xnegated, Xeverywhere, XlabelStart, XlabelSize, Xtarget, XreplacementStart, XreplacementEnd, Xreplacement, Xaddress, XstartAnchor, XendAnchor, XatomCount, XatomChar, XatomStarred, Xoutput, Xpattern, Xhold, XactivationLine, Xresult) ∧ XtablePresent1 = 1 ∧ XcommandCount1 = nI n ∧ tx_T Xscript L n Xverb1 Xnegated1 Xeverywhere1 XlabelStart1 XlabelSize1 XreplacementStart1 XreplacementEnd1 Xreplacement1 Xaddress1 XstartAnchor1 XendAnchor1 XatomCount1 XatomChar1 XatomStarred1 ∧ (∀ a, a < n → (lb_c Xscript L a = 98 ∨ lb_c Xscript L a = 116) → ∃ t, Xtarget1 a = nI t ∧ lb_t Xscript L n a t)) → post (nI n) u)
    (hb : (∀ n, cq_N Xscript L n → ¬ (lb_1 Xscript L n ∧ lb_2 Xscript L n)) → ∀ u, xc_K u = xc_K (Xquiet, Xfuel, nI L, XinputSize, Xcursor, XitemCount, XtablePresent, XcommandCount, XoutputSize, XpatternSize, XholdSize, XlineNumber, XstepCount, XnextLine, Xpointer, Xsubstituted, XresultSize, Xscript, Xinput, Xitems, Xverb, Xnegated, Xeverywhere, XlabelStart, XlabelSize, Xtarget, XreplacementStart, XreplacementEnd, Xreplacement, Xaddress, XstartAnchor, XendAnchor, XatomCount, XatomChar, XatomStarred, Xoutput, Xpattern, Xhold, XactivationLine, Xresult) → xc_t u = 0 → post (-1) u) :
    wpX_compile post (Xquiet, Xfuel, nI L, XinputSize, Xcursor, XitemCount, XtablePresent, XcommandCount, XoutputSize, XpatternSize, XholdSize, XlineNumber, XstepCount, XnextLine, Xpointer, Xsubstituted, XresultSize, Xscript, Xinput, Xitems, Xverb, Xnegated, Xeverywhere, XlabelStart, XlabelSize, Xtarget, XreplacementStart, XreplacementEnd, Xreplacement, Xaddress, XstartAnchor, XendAnchor, XatomCount, XatomChar, XatomStarred, Xoutput, Xpattern, Xhold, XactivationLine, Xresult) := by
  unfold wpX_compile
  refine xm_skipSep (q := 0) hL (by omega) ?_
  exact ⟨18, xm_23 hL hc hg hb 18 0 (by omega) (by omega) (fun j hj => absurd hj (by omega)) _ _ _ _ _ _ _ _ _ _ _ _ _ _ _ _ _ _ rfl (fun k hk => absurd hk (by omega))⟩
end XC_1
