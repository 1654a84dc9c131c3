/-! the script's commands one behind another -/
section SQ_1
theorem cm_x_f {s : Nat → Int32} {L q : Nat} {d : cm_T} (hq : q ≤ L) (h : cm_x s L q = some d) : q < d.2.2.2 ∧ d.2.2.2 ≤ L ∧ d.2.2.1.1.1 + d.2.2.1.1.2 ≤ L ∧ d.2.2.1.1.2 ≤ 8 ∧ (d.2.1 = 58 → 1 ≤ d.2.2.1.1.2) ∧ (¬ (d.2.1 = 58 ∨ d.2.1 = 98 ∨ d.2.1 = 116) → d.2.2.1.1.2 = 0) ∧ d.2.2.1.2.1.2.1 + d.2.2.1.2.1.2.2.1 ≤ d.2.2.2 := by
  unfold cm_x at h
  cases ea : cm_a s L q with
  | none => rw [ea] at h; exact absurd h (by simp)
  | some a =>
    rw [ea] at h
    dsimp only [Option.bind] at h
    cases eb : cm_b s L a.1 a.2.2.2.2 with
    | none => rw [eb] at h; exact absurd h (by simp)
    | some b =>
      rw [eb] at h
      dsimp only at h
      split at h
      · exact absurd h (by simp)
      · have t := (Option.some.inj h).symm
        have fa := cm_a_f hq ea
        have fb := cm_b_f eb
        have fs := cm_sk_f (s := s) fb.2
        rw [t]
        dsimp only
        refine ⟨by omega, by omega, ?_⟩
        unfold cm_b at eb
        split at eb
        · exact absurd eb (by simp)
        · split at eb
          · rename_i w
            cases es : cm_s s L (a.2.2.2.2 + 1) with
            | none => rw [es] at eb; exact absurd eb (by simp)
            | some g =>
              rw [es] at eb
              have t2 := (Option.some.inj eb).symm
              have f := cm_s_f es
              rw [t2] at fs ⊢
              dsimp only at fs ⊢
              refine ⟨by omega, by omega, fun y => ?_, fun _ => rfl, by omega⟩
              rw [w] at y
              exact absurd y (by decide)
          · split at eb
            · rename_i w1 w2
              split at eb
              · exact absurd eb (by simp)
              · rename_i w3
                have t2 := (Option.some.inj eb).symm
                have f := cm_le_f (s := s) (show a.2.2.2.2 + 1 ≤ L by omega)
                rw [t2] at fs ⊢
                dsimp only at fs ⊢
                refine ⟨by omega, ?_, fun y => ?_, fun y => absurd w2 y, by omega⟩
                · rcases Nat.lt_or_ge 8 (cm_le s L (a.2.2.2.2 + 1) - cm_ls s L (a.2.2.2.2 + 1)) with z | z
                  · exact absurd (Or.inr (Or.inl z)) w3
                  · exact z
                · rcases Nat.lt_or_ge (cm_le s L (a.2.2.2.2 + 1) - cm_ls s L (a.2.2.2.2 + 1)) 1 with z | z
                  · exact absurd (Or.inr (Or.inr ⟨y, z⟩)) w3
                  · exact z
            · rename_i w1 w2
              split at eb
              · have t2 := (Option.some.inj eb).symm
                rw [t2] at fs ⊢
                dsimp only at fs ⊢
                exact ⟨by omega, by omega, fun y => absurd (Or.inl y) w2, fun _ => rfl, by omega⟩
              · exact absurd eb (by simp)
/-- where command k begins -/
def cq_Q (s : Nat → Int32) (L : Nat) : Nat → Nat
  | 0 => sc_e (pb_z s) L 0
  | k + 1 => match cm_x s L (cq_Q s L k) with
    | none => L
    | some d => sc_e (pb_z s) L d.2.2.2
def cq_0 : cm_T := ((0, (0, 0), (0, 0), 0, 0), 0, ((0, 0), (0, 0, 0, 0), 0), 0)
def cq_D (s : Nat → Int32) (L k : Nat) : cm_T := match cm_x s L (cq_Q s L k) with
  | none => cq_0
  | some d => d
/-- the first k commands are good -/
def cq_G (s : Nat → Int32) (L k : Nat) : Prop := ∀ j, j < k → cq_Q s L j < L ∧ cm_x s L (cq_Q s L j) = some (cq_D s L j)
theorem cq_Q_le (s : Nat → Int32) (L : Nat) : ∀ k, cq_Q s L k ≤ L := by
  intro k
  induction k with
  | zero => exact sc_le (Nat.zero_le _)
  | succ k ih =>
    rw [cq_Q]
    cases e : cm_x s L (cq_Q s L k) with
    | none => exact Nat.le_refl _
    | some d => exact sc_le (cm_x_f ih e).2.1
theorem cq_s {s : Nat → Int32} {L k : Nat} {d : cm_T} (h : cm_x s L (cq_Q s L k) = some d) : cq_D s L k = d ∧ cq_Q s L (k + 1) = sc_e (pb_z s) L d.2.2.2 := by
  constructor
  · unfold cq_D; rw [h]
  · rw [cq_Q, h]
theorem cq_Gs {s : Nat → Int32} {L k : Nat} {d : cm_T} (hG : cq_G s L k) (hq : cq_Q s L k < L) (h : cm_x s L (cq_Q s L k) = some d) : cq_G s L (k + 1) := by
  intro j hj
  by_cases z : j = k
  · rw [z, (cq_s h).1]; exact ⟨hq, h⟩
  · exact hG j (by omega)
theorem cq_lt {s : Nat → Int32} {L k : Nat} (hG : cq_G s L (k + 1)) : (cq_D s L k).2.2.2 ≤ cq_Q s L (k + 1) ∧ cq_Q s L k < (cq_D s L k).2.2.2 := by
  obtain ⟨a, b⟩ := hG k (by omega)
  have f := cm_x_f (Nat.le_of_lt a) b
  have g := (cq_s b).2
  rw [g]
  exact ⟨sc_ge f.2.1, f.1⟩
theorem cq_mono {s : Nat → Int32} {L : Nat} : ∀ k, cq_G s L k → ∀ j, j < k → (cq_D s L j).2.2.2 ≤ cq_Q s L k ∧ k ≤ cq_Q s L k := by
  intro k
  induction k with
  | zero => intro _ j hj; omega
  | succ k ih =>
    intro hG j hj
    have a := cq_lt hG
    have hG' : cq_G s L k := fun i hi => hG i (by omega)
    have kq : k ≤ cq_Q s L k := by
      cases k with
      | zero => exact Nat.zero_le _
      | succ k => exact (ih hG' k (by omega)).2
    by_cases z : j = k
    · rw [z]; exact ⟨a.1, by omega⟩
    · have := ih hG' j (by omega)
      exact ⟨by omega, by omega⟩
/-- n commands, no more than 16, and then the script's end -/
def cq_N (s : Nat → Int32) (L n : Nat) : Prop := cq_G s L n ∧ L ≤ cq_Q s L n ∧ n ≤ 16
theorem cq_b16 {s : Nat → Int32} {L k : Nat} (hG : cq_G s L k) (h : cq_Q s L k < L) (h16 : 16 ≤ k) : ∀ n, ¬ cq_N s L n := by
  intro n ⟨a, b, c⟩
  by_cases z : n = k
  · rw [z] at b; omega
  · have := (hG n (by omega)).1; omega
theorem cq_bx {s : Nat → Int32} {L k : Nat} (hG : cq_G s L k) (h : cq_Q s L k < L) (hx : cm_x s L (cq_Q s L k) = none) : ∀ n, ¬ cq_N s L n := by
  intro n ⟨a, b, c⟩
  rcases Nat.lt_or_ge k n with z | z
  · have := (a k z).2
    rw [hx] at this
    exact absurd this (by simp)
  · by_cases y : n = k
    · rw [y] at b; omega
    · have := (hG n (by omega)).1; omega
theorem cq_bn {s : Nat → Int32} {L k : Nat} (hG : cq_G s L k) (h16 : 16 < k) : ∀ n, ¬ cq_N s L n := by
  intro n ⟨a, b, c⟩
  have := (hG n (by omega)).1
  omega
/-! labels -/
def lb_c (s : Nat → Int32) (L k : Nat) : Int32 := (cq_D s L k).2.1
def lb_s (s : Nat → Int32) (L k : Nat) : Nat := (cq_D s L k).2.2.1.1.1
def lb_l (s : Nat → Int32) (L k : Nat) : Nat := (cq_D s L k).2.2.1.1.2
def lb_q (s : Nat → Int32) (L a b : Nat) : Prop := lb_E s (lb_s s L a) (lb_l s L a) (lb_s s L b) (lb_l s L b)
/-- ':' commands have different labels -/
def lb_1 (s : Nat → Int32) (L n : Nat) : Prop := ∀ a b, a < n → b < n → ¬ a = b → lb_c s L a = 58 → lb_c s L b = 58 → ¬ lb_q s L a b
/-- every label that b or t names is there -/
def lb_2 (s : Nat → Int32) (L n : Nat) : Prop := ∀ a, a < n → (lb_c s L a = 98 ∨ lb_c s L a = 116) → ¬ lb_l s L a = 0 → ∃ b, b < n ∧ lb_c s L b = 58 ∧ lb_q s L a b
/-- where command a (a 'b' or 't') branches to -/
def lb_t (s : Nat → Int32) (L n a t : Nat) : Prop := (lb_l s L a = 0 ∧ t = n) ∨ (¬ lb_l s L a = 0 ∧ t < n ∧ lb_c s L t = 58 ∧ lb_q s L a t ∧ ∀ j, j < t → lb_c s L j = 58 → ¬ lb_q s L a j)
theorem lb_f {s : Nat → Int32} {L n a : Nat} (hG : cq_G s L n) (ha : a < n) : lb_s s L a + lb_l s L a ≤ L ∧ lb_l s L a ≤ 8 ∧ (lb_c s L a = 58 → 1 ≤ lb_l s L a) ∧ (¬ (lb_c s L a = 58 ∨ lb_c s L a = 98 ∨ lb_c s L a = 116) → lb_l s L a = 0) := by
  obtain ⟨h1, h2⟩ := hG a ha
  have f := cm_x_f (Nat.le_of_lt h1) h2
  exact ⟨f.2.2.1, f.2.2.2.1, f.2.2.2.2.1, f.2.2.2.2.2.1⟩
end SQ_1
section SQ_2
variable {Xquiet Xfuel XscriptSize XinputSize Xcursor XitemCount XtablePresent XcommandCount XoutputSize XpatternSize XholdSize XlineNumber XstepCount XnextLine Xpointer Xsubstituted XresultSize : Int32} {Xscript Xinput Xitems Xverb Xnegated Xeverywhere XlabelStart XlabelSize Xtarget XreplacementStart XreplacementEnd Xreplacement Xaddress XstartAnchor XendAnchor XatomCount XatomChar XatomStarred Xoutput Xpattern Xhold XactivationLine Xresult : Nat → Int32}
/-- X's table: command k's parse lies in the arrays -/
def tx_T (s : Nat → Int32) (L n : Nat) (vb ng ev lst lsz rst ren rep adr sa ea ac ach ast : Nat → Int32) : Prop := ∀ k, k < n → tb_X s L vb ng ev lst lsz rst ren rep adr sa ea ac ach ast k (cq_D s L k)
/-- the labels alone -/
def tx_L (s : Nat → Int32) (L n : Nat) (vb lst lsz : Nat → Int32) : Prop := ∀ k, k < n → vb k = lb_c s L k ∧ ((lb_c s L k = 58 ∨ lb_c s L k = 98 ∨ lb_c s L k = 116) → lst k = nI (lb_s s L k) ∧ lsz k = nI (lb_l s L k))
theorem xm_same {L n a b : Nat} {post : Int32 → Prop} (hL : L ≤ 128) (hG : cq_G Xscript L n) (hn : n ≤ 16) (hT : tx_L Xscript L n Xverb XlabelStart XlabelSize) (ha : a < n) (hb : b < n) (ca : lb_c Xscript L a = 58 ∨ lb_c Xscript L a = 98 ∨ lb_c Xscript L a = 116) (cb : lb_c Xscript L b = 58)
    (h1 : lb_q Xscript L a b → post 1) (h0 : ¬ lb_q Xscript L a b → post 0) : wpX_sameLabel post (Xquiet, Xfuel, XscriptSize, XinputSize, Xcursor, XitemCount, XtablePresent, XcommandCount, XoutputSize, XpatternSize, XholdSize, XlineNumber, XstepCount, XnextLine, Xpointer, Xsubstituted, XresultSize, Xscript, Xinput, Xitems, Xverb, Xnegated, Xeverywhere, XlabelStart, XlabelSize, Xtarget, XreplacementStart, XreplacementEnd, Xreplacement, Xaddress, XstartAnchor, XendAnchor, XatomCount, XatomChar, XatomStarred, Xoutput, Xpattern, Xhold, XactivationLine, Xresult) (nI a) (nI b) := by
  obtain ⟨a1, a2⟩ := (hT a ha).2 ca
  obtain ⟨b1, b2⟩ := (hT b hb).2 (Or.inl cb)
  have fa := lb_f hG ha
  have fb := lb_f hG hb
  have va : vp_in (nI a) 16 := pk_in a 16 (by omega)
  have vb : vp_in (nI b) 16 := pk_in b 16 (by omega)
  unfold wpX_sameLabel
  refine ⟨va, vb, ?_⟩
  rw [nI_clamp (show a < 2 ^ 31 by omega), nI_clamp (show b < 2 ^ 31 by omega), a2, b2]
  refine pk_eq (lb_l Xscript L a) (lb_l Xscript L b) (fun e => ⟨lb_l Xscript L a + 1, ?_⟩) (fun e => h0 (fun y => e y.1))
  have loop : ∀ f j, lb_l Xscript L a - j < f → j ≤ lb_l Xscript L a → (∀ i, i < j → Xscript (lb_s Xscript L a + i) = Xscript (lb_s Xscript L b + i)) → wX_sameLabel_19 post (nI a) (nI b) Xquiet Xfuel XscriptSize XinputSize Xcursor XitemCount XtablePresent XcommandCount XoutputSize XpatternSize XholdSize XlineNumber XstepCount XnextLine Xpointer Xsubstituted XresultSize Xscript Xinput Xitems Xverb Xnegated Xeverywhere XlabelStart XlabelSize Xtarget XreplacementStart XreplacementEnd Xreplacement Xaddress XstartAnchor XendAnchor XatomCount XatomChar XatomStarred Xoutput Xpattern Xhold XactivationLine Xresult f (nI j) := by
    intro f
    induction f with
    | zero => intro j h; omega
    | succ f ih =>
    intro j hf hj hi
    refine ⟨va, ?_⟩
    rw [nI_clamp (show a < 2 ^ 31 by omega), nI_clamp (show b < 2 ^ 31 by omega), a1, a2, b1]
    refine pk_le (lb_l Xscript L a) j (fun w => h1 ⟨e, fun i hi' => hi i (by omega)⟩) (fun w => ?_)
    rw [nI_add, nI_add]
    refine ⟨va, vp_in_nI (by omega) (by omega), vb, vp_in_nI (by omega) (by omega), ?_⟩
    rw [nI_clamp (by omega), nI_clamp (by omega)]
    refine br_c (fun y => nm_r (nI_1 j) (ih (j + 1) (by omega) (by omega) (fun i hi' => ?_))) (fun y => h0 (fun w' => y (w'.2 j (by omega))))
    by_cases z : i = j
    · rw [z]; exact y
    · exact hi i (by omega)
  exact loop _ 0 (by omega) (by omega) (fun i hi => absurd hi (by omega))
theorem xm_find {L n a : Nat} {post : Int32 → Prop} (hL : L ≤ 128) (hG : cq_G Xscript L n) (hn : n ≤ 16) (hT : tx_L Xscript L n Xverb XlabelStart XlabelSize) (ha : a < n) (ca : lb_c Xscript L a = 58 ∨ lb_c Xscript L a = 98 ∨ lb_c Xscript L a = 116) {p : Nat} (hp : p ≤ n)
    (h1 : ∀ m, p ≤ m → m < n → lb_c Xscript L m = 58 → lb_q Xscript L a m → (∀ j, p ≤ j → j < m → lb_c Xscript L j = 58 → ¬ lb_q Xscript L a j) → post (nI m))
    (h0 : (∀ j, p ≤ j → j < n → lb_c Xscript L j = 58 → ¬ lb_q Xscript L a j) → post (-1)) : wpX_findLabel post (Xquiet, Xfuel, XscriptSize, XinputSize, Xcursor, XitemCount, XtablePresent, nI n, XoutputSize, XpatternSize, XholdSize, XlineNumber, XstepCount, XnextLine, Xpointer, Xsubstituted, XresultSize, Xscript, Xinput, Xitems, Xverb, Xnegated, Xeverywhere, XlabelStart, XlabelSize, Xtarget, XreplacementStart, XreplacementEnd, Xreplacement, Xaddress, XstartAnchor, XendAnchor, XatomCount, XatomChar, XatomStarred, Xoutput, Xpattern, Xhold, XactivationLine, Xresult) (nI a) (nI p) := by
  unfold wpX_findLabel
  have loop : ∀ f m, n - m < f → p ≤ m → m ≤ n → (∀ j, p ≤ j → j < m → lb_c Xscript L j = 58 → ¬ lb_q Xscript L a j) → wX_findLabel_2 post (nI a) Xquiet Xfuel XscriptSize XinputSize Xcursor XitemCount XtablePresent (nI n) XoutputSize XpatternSize XholdSize XlineNumber XstepCount XnextLine Xpointer Xsubstituted XresultSize Xscript Xinput Xitems Xverb Xnegated Xeverywhere XlabelStart XlabelSize Xtarget XreplacementStart XreplacementEnd Xreplacement Xaddress XstartAnchor XendAnchor XatomCount XatomChar XatomStarred Xoutput Xpattern Xhold XactivationLine Xresult f (nI m) := by
    intro f
    induction f with
    | zero => intro m h; omega
    | succ f ih =>
    intro m hf hpm hm hj
    refine pk_le n m (fun w => h0 (fun j a b => hj j a (by omega))) (fun w => ⟨pk_in m 16 (by omega), ?_⟩)
    rw [nI_clamp (by omega), (hT m w).1]
    have nxt : (lb_c Xscript L m = 58 → ¬ lb_q Xscript L a m) → wX_findLabel_2 post (nI a) Xquiet Xfuel XscriptSize XinputSize Xcursor XitemCount XtablePresent (nI n) XoutputSize XpatternSize XholdSize XlineNumber XstepCount XnextLine Xpointer Xsubstituted XresultSize Xscript Xinput Xitems Xverb Xnegated Xeverywhere XlabelStart XlabelSize Xtarget XreplacementStart XreplacementEnd Xreplacement Xaddress XstartAnchor XendAnchor XatomCount XatomChar XatomStarred Xoutput Xpattern Xhold XactivationLine Xresult f (nI (m + 1)) := fun hh => ih (m + 1) (by omega) (by omega) (by omega) (fun j a b c => by
      by_cases z : j = m
      · rw [z] at c ⊢; exact hh c
      · exact hj j a (by omega) c)
    refine br_c (fun c => ?_) (fun c => nm_r (nI_1 m) (nxt (fun y => absurd y c)))
    refine xm_same hL hG hn hT ha w ca c (fun y => br_f (by decide) (h1 m hpm w c y hj)) (fun y => br_t rfl (nm_r (nI_1 m) (nxt (fun _ => y))))
  exact ⟨n - p + 1, loop _ p (by omega) (Nat.le_refl _) hp (fun j a b => absurd b (by omega))⟩
theorem xm_differ {L n : Nat} {post : Int32 → Prop} (hL : L ≤ 128) (hG : cq_G Xscript L n) (hn : n ≤ 16) (hT : tx_L Xscript L n Xverb XlabelStart XlabelSize)
    (h1 : lb_1 Xscript L n → post 1) (h0 : ¬ lb_1 Xscript L n → post 0) : wpX_labelsDiffer post (Xquiet, Xfuel, XscriptSize, XinputSize, Xcursor, XitemCount, XtablePresent, nI n, XoutputSize, XpatternSize, XholdSize, XlineNumber, XstepCount, XnextLine, Xpointer, Xsubstituted, XresultSize, Xscript, Xinput, Xitems, Xverb, Xnegated, Xeverywhere, XlabelStart, XlabelSize, Xtarget, XreplacementStart, XreplacementEnd, Xreplacement, Xaddress, XstartAnchor, XendAnchor, XatomCount, XatomChar, XatomStarred, Xoutput, Xpattern, Xhold, XactivationLine, Xresult) := by
  unfold wpX_labelsDiffer
  have loop : ∀ f m, n - m < f → m ≤ n → (∀ a b, a < m → b < n → a < b → lb_c Xscript L a = 58 → lb_c Xscript L b = 58 → ¬ lb_q Xscript L a b) → wX_labelsDiffer_2 post Xquiet Xfuel XscriptSize XinputSize Xcursor XitemCount XtablePresent (nI n) XoutputSize XpatternSize XholdSize XlineNumber XstepCount XnextLine Xpointer Xsubstituted XresultSize Xscript Xinput Xitems Xverb Xnegated Xeverywhere XlabelStart XlabelSize Xtarget XreplacementStart XreplacementEnd Xreplacement Xaddress XstartAnchor XendAnchor XatomCount XatomChar XatomStarred Xoutput Xpattern Xhold XactivationLine Xresult f (nI m) := by
    intro f
    induction f with
    | zero => intro m h; omega
    | succ f ih =>
    intro m hf hm hj
    refine pk_le n m (fun w => h1 (fun a b ha hb hab ca cb y => ?_)) (fun w => ⟨pk_in m 16 (by omega), ?_⟩)
    · rcases Nat.lt_or_ge a b with z | z
      · exact hj a b (by omega) hb z ca cb y
      · exact hj b a (by omega) ha (by omega) cb ca (lb_sym y)
    · rw [nI_clamp (by omega), (hT m w).1]
      refine br_c (fun c => ?_) (fun c => nm_r (nI_1 m) (ih (m + 1) (by omega) (by omega) (fun a b ha hb hab ca cb => ?_)))
      · rw [nI_1]
        refine xm_find hL hG hn hT w (Or.inl c) (by omega) (fun b hb1 hb2 cb y _ => br_f (fun e => ?_) (h0 (fun z => z m b w hb2 (by omega) c cb y))) (fun hh => br_t rfl (nm_e (ih (m + 1) (by omega) (by omega) (fun a b ha hb hab ca cb => ?_))))
        · exact absurd (nI_pos (n := b) (by omega)) (by rw [e]; exact fun q => q (by decide))
        · by_cases z : a = m
          · rw [z]; exact hh b (by omega) hb cb
          · exact hj a b (by omega) hb hab ca cb
      · by_cases z : a = m
        · rw [z] at ca; exact absurd ca c
        · exact hj a b (by omega) hb hab ca cb
  exact ⟨n + 1, loop _ 0 (by omega) (by omega) (fun a b ha => absurd ha (by omega))⟩
theorem xm_targets {L n : Nat} {post : Int32 → SX → Prop} (hL : L ≤ 128) (hG : cq_G Xscript L n) (hn : n ≤ 16) (hT : tx_L Xscript L n Xverb XlabelStart XlabelSize)
    (h1 : lb_2 Xscript L n → ∀ tg, (∀ a, a < n → (lb_c Xscript L a = 98 ∨ lb_c Xscript L a = 116) → ∃ t, tg a = nI t ∧ lb_t Xscript L n a t) → post 1 (Xquiet, Xfuel, XscriptSize, XinputSize, Xcursor, XitemCount, XtablePresent, nI n, XoutputSize, XpatternSize, XholdSize, XlineNumber, XstepCount, XnextLine, Xpointer, Xsubstituted, XresultSize, Xscript, Xinput, Xitems, Xverb, Xnegated, Xeverywhere, XlabelStart, XlabelSize, tg, XreplacementStart, XreplacementEnd, Xreplacement, Xaddress, XstartAnchor, XendAnchor, XatomCount, XatomChar, XatomStarred, Xoutput, Xpattern, Xhold, XactivationLine, Xresult)) (h0 : ¬ lb_2 Xscript L n → ∀ tg, post 0 (Xquiet, Xfuel, XscriptSize, XinputSize, Xcursor, XitemCount, XtablePresent, nI n, XoutputSize, XpatternSize, XholdSize, XlineNumber, XstepCount, XnextLine, Xpointer, Xsubstituted, XresultSize, Xscript, Xinput, Xitems, Xverb, Xnegated, Xeverywhere, XlabelStart, XlabelSize, tg, XreplacementStart, XreplacementEnd, Xreplacement, Xaddress, XstartAnchor, XendAnchor, XatomCount, XatomChar, XatomStarred, Xoutput, Xpattern, Xhold, XactivationLine, Xresult)) : wpX_findTargets post (Xquiet, Xfuel, XscriptSize, XinputSize, Xcursor, XitemCount, XtablePresent, nI n, XoutputSize, XpatternSize, XholdSize, XlineNumber, XstepCount, XnextLine, Xpointer, Xsubstituted, XresultSize, Xscript, Xinput, Xitems, Xverb, Xnegated, Xeverywhere, XlabelStart, XlabelSize, Xtarget, XreplacementStart, XreplacementEnd, Xreplacement, Xaddress, XstartAnchor, XendAnchor, XatomCount, XatomChar, XatomStarred, Xoutput, Xpattern, Xhold, XactivationLine, Xresult) := by
  unfold wpX_findTargets
  have loop : ∀ f m tg, n - m < f → m ≤ n → (∀ a, a < m → (lb_c Xscript L a = 98 ∨ lb_c Xscript L a = 116) → ∃ t, tg a = nI t ∧ lb_t Xscript L n a t) → wX_findTargets_2 post Xquiet Xfuel XscriptSize XinputSize Xcursor XitemCount XtablePresent (nI n) XoutputSize XpatternSize XholdSize XlineNumber XstepCount XnextLine Xpointer Xsubstituted XresultSize f (nI m) Xscript Xinput Xitems Xverb Xnegated Xeverywhere XlabelStart XlabelSize tg XreplacementStart XreplacementEnd Xreplacement Xaddress XstartAnchor XendAnchor XatomCount XatomChar XatomStarred Xoutput Xpattern Xhold XactivationLine Xresult := by
    intro f
    induction f with
    | zero => intro m tg h; omega
    | succ f ih =>
    intro m tg hf hm hj
    refine pk_le n m (fun w => h1 (fun a ha ca hl => ?_) tg (fun a ha => hj a (by omega))) (fun w => ⟨pk_in m 16 (by omega), ?_⟩)
    · obtain ⟨t, _, ht⟩ := hj a (by omega) ca
      rcases ht with ⟨y, _⟩ | ⟨_, y1, y2, y3, _⟩
      · exact absurd y hl
      · exact ⟨t, y1, y2, y3⟩
    · have vm : vp_in (nI m) 16 := pk_in m 16 (by omega)
      have h59 : ∀ t, lb_t Xscript L n m t → wX_findTargets_59 post (wX_findTargets_2 post Xquiet Xfuel XscriptSize XinputSize Xcursor XitemCount XtablePresent (nI n) XoutputSize XpatternSize XholdSize XlineNumber XstepCount XnextLine Xpointer Xsubstituted XresultSize f) (nI m) (nI t) (nI m) Xquiet Xfuel XscriptSize XinputSize Xcursor XitemCount XtablePresent (nI n) XoutputSize XpatternSize XholdSize XlineNumber XstepCount XnextLine Xpointer Xsubstituted XresultSize Xscript Xinput Xitems Xverb Xnegated Xeverywhere XlabelStart XlabelSize tg XreplacementStart XreplacementEnd Xreplacement Xaddress XstartAnchor XendAnchor XatomCount XatomChar XatomStarred Xoutput Xpattern Xhold XactivationLine Xresult := by
        intro t ht
        refine ⟨vm, nm_e ⟨vm, ?_⟩⟩
        rw [nI_clamp (by omega), pk_us]
        have hb : t ≤ 16 := by
          rcases ht with ⟨_, y⟩ | ⟨_, y, _⟩ <;> omega
        refine br_f (fun e => absurd (nI_pos (n := t) (by omega)) (by rw [e]; exact fun q => q (by decide))) (nm_r (nI_1 m) (ih (m + 1) _ (by omega) (by omega) (fun a ha ca => ?_)))
        by_cases z : a = m
        · rw [z, pk_us]; exact ⟨t, rfl, ht⟩
        · rw [pk_un z]; exact hj a (by omega) ca
      have h32 : (lb_c Xscript L m = 98 ∨ lb_c Xscript L m = 116) → wX_findTargets_32 post (wX_findTargets_2 post Xquiet Xfuel XscriptSize XinputSize Xcursor XitemCount XtablePresent (nI n) XoutputSize XpatternSize XholdSize XlineNumber XstepCount XnextLine Xpointer Xsubstituted XresultSize f) (nI m) Xquiet Xfuel XscriptSize XinputSize Xcursor XitemCount XtablePresent (nI n) XoutputSize XpatternSize XholdSize XlineNumber XstepCount XnextLine Xpointer Xsubstituted XresultSize Xscript Xinput Xitems Xverb Xnegated Xeverywhere XlabelStart XlabelSize tg XreplacementStart XreplacementEnd Xreplacement Xaddress XstartAnchor XendAnchor XatomCount XatomChar XatomStarred Xoutput Xpattern Xhold XactivationLine Xresult := by
        intro c
        refine ⟨vm, ?_⟩
        rw [nI_clamp (by omega), ((hT m w).2 (Or.inr c)).2]
        have fm := lb_f hG w
        refine pk_eq (lb_l Xscript L m) 0 (fun e => h59 n (Or.inl ⟨e, rfl⟩)) (fun e => ?_)
        refine xm_find (p := 0) hL hG hn hT w (Or.inr c) (by omega) (fun b _ hb2 cb y hh => h59 b (Or.inr ⟨e, hb2, cb, y, fun j hj' cj => hh j (by omega) hj' cj⟩)) (fun hh => ?_)
        refine ⟨vm, nm_e ⟨vm, ?_⟩⟩
        rw [nI_clamp (by omega), pk_us]
        refine br_t rfl (h0 (fun z => ?_) _)
        obtain ⟨b, y1, y2, y3⟩ := z m w c e
        exact hh b (by omega) y1 y2 y3
      rw [nI_clamp (by omega), (hT m w).1]
      refine br_c (fun c => h32 (Or.inl c)) (fun c => ⟨vm, br_c (fun c' => h32 (Or.inr c')) (fun c' => nm_r (nI_1 m) (ih (m + 1) _ (by omega) (by omega) (fun a ha ca => ?_)))⟩)
      by_cases z : a = m
      · rw [z] at ca
        rcases ca with y | y
        · exact absurd y c
        · exact absurd y c'
      · exact hj a (by omega) ca
  exact ⟨n + 1, loop _ 0 _ (by omega) (by omega) (fun a ha => absurd ha (by omega))⟩
end SQ_2
