/-! Y: selection, the next line -/
section YV_1
variable {Yquiet Yfuel YscrLen YinpLen YhasTab YnCmd YoutLen YpatLen YholdLen YlinesRead YstepsUsed Ytflag YnAddr Ya1K Ya1V Ya2K Ya2V Ycc YlabS YlabL YsRe YsRep YadK YadV Yneg YsG YicN Yna YanS YanE YmJ YrLen : Int32} {Yscr Yinp YcmdPos Yout Ypat Yhold Yactive Yact Yic Yie YaC YaAny YaSt Yrch Ynx Yrb : Nat → Int32}
/-- a good address -/
def ad_ok (L kd : Nat) (v : Int32) : Prop := kd ≤ 3 ∧ ¬ kd = 0 ∧ (¬ kd = 1 → ¬ kd = 2 → ∃ p : Nat, p ≤ L ∧ v = nI p)
theorem ad_x_ok {s : Nat → Int32} {L q : Nat} {a : Nat × Int32 × Nat} (h : ad_x s L q = some a) : ad_ok L a.1 a.2.1 := by
  unfold ad_x at h
  split at h
  · exact absurd h (by simp)
  · split at h
    · rw [← Option.some.inj h]; exact ⟨(by decide : (2 : Nat) ≤ 3), (by decide : ¬ (2 : Nat) = 0), fun _ y => absurd rfl y⟩
    · split at h
      · cases e : rg_x s L (q + 1) with
        | none => rw [e] at h; exact absurd h (by simp)
        | some r => rw [e] at h; rw [← Option.some.inj h]; exact ⟨Nat.le_refl 3, (by decide : ¬ (3 : Nat) = 0), fun _ _ => ⟨q + 1, by omega, rfl⟩⟩
      · split at h
        · cases e : nu_x s L q with
          | none => rw [e] at h; exact absurd h (by simp)
          | some r => rw [e] at h; rw [← Option.some.inj h]; exact ⟨(by decide : (1 : Nat) ≤ 3), (by decide : ¬ (1 : Nat) = 0), fun y => absurd rfl y⟩
        · exact absurd h (by simp)
def cm_ok (s : Nat → Int32) (L : Nat) (d : cm_T) : Prop := d.1.1 ≤ 2 ∧ (d.1.2.2.2.1 = 0 ∨ d.1.2.2.2.1 = 1) ∧ (¬ d.1.1 = 0 → ad_ok L d.1.2.1.1 d.1.2.1.2) ∧ (d.1.1 = 2 → ad_ok L d.1.2.2.1.1 d.1.2.2.1.2) ∧ (d.2.1 = 115 → d.2.2.1.2.1.1 ≤ L ∧ d.2.2.1.2.1.2.1 ≤ L ∧ (∃ g, rg_x s L d.2.2.1.2.1.1 = some g) ∧ tx_n s L d.2.2.1.2.1.2.1 = some d.2.2.1.2.1.2.2.1 ∧ (d.2.2.1.2.1.2.2.2 = 0 ∨ d.2.2.1.2.1.2.2.2 = 1)) ∧ (d.1.1 = 0 → d.1.2.1.1 = 0 ∧ d.1.2.2.2.1 = 0) ∧ (¬ d.1.1 = 2 → d.1.2.2.1.1 = 0)
theorem cm_a_ok {s : Nat → Int32} {L q : Nat} {a : Nat × (Nat × Int32) × (Nat × Int32) × Int32 × Nat} (h : cm_a s L q = some a) : a.1 ≤ 2 ∧ (a.2.2.2.1 = 0 ∨ a.2.2.2.1 = 1) ∧ (¬ a.1 = 0 → ad_ok L a.2.1.1 a.2.1.2) ∧ (a.1 = 2 → ad_ok L a.2.2.1.1 a.2.2.1.2) ∧ (a.1 = 0 → a.2.1.1 = 0 ∧ a.2.2.2.1 = 0) ∧ (¬ a.1 = 2 → a.2.2.1.1 = 0) := by
  unfold cm_a at h
  split at h
  · cases e : ad_x s L q with
    | none => rw [e] at h; exact absurd h (by simp)
    | some a0 =>
      rw [e] at h
      dsimp only [Option.bind] at h
      split at h
      · cases e3 : ad_x s L (cm_sk s L (cm_sk s L a0.2.2 + 1)) with
        | none => rw [e3] at h; exact absurd h (by simp)
        | some b0 =>
          rw [e3] at h
          rw [← Option.some.inj h]
          exact ⟨Nat.le_refl 2, cm_g01 _ _ _, fun _ => ad_x_ok e, fun _ => ad_x_ok e3, fun y => absurd y (by decide : ¬ (2 : Nat) = 0), fun y => absurd rfl y⟩
      · rw [← Option.some.inj h]
        exact ⟨(by decide : (1 : Nat) ≤ 2), cm_g01 _ _ _, fun _ => ad_x_ok e, fun y => absurd y (by decide : ¬ (1 : Nat) = 2), fun y => absurd y (by decide : ¬ (1 : Nat) = 0), fun _ => rfl⟩
  · rw [← Option.some.inj h]
    exact ⟨Nat.zero_le 2, Or.inl rfl, fun y => absurd rfl y, fun y => absurd y (by decide : ¬ (0 : Nat) = 2), fun _ => ⟨rfl, rfl⟩, fun _ => rfl⟩
theorem cm_x_ok {s : Nat → Int32} {L q : Nat} {d : cm_T} (hq : q ≤ L) (h : cm_x s L q = some d) : cm_ok s L d := by
  unfold cm_x at h
  cases ea : cm_a s L q with
  | none => rw [ea] at h; exact absurd h (by simp)
  | some a =>
    rw [ea] at h
    dsimp only [Option.bind] at h
    cases eb : cm_b s L a.1 a.2.2.2.2 with
    | none => rw [eb] at h; exact absurd h (by simp)
    | some b =>
      rw [eb] at h
      dsimp only at h
      split at h
      · exact absurd h (by simp)
      · rw [← Option.some.inj h]
        obtain ⟨o1, o2, o3, o4, o5, o6⟩ := cm_a_ok ea
        refine ⟨o1, o2, o3, o4, fun y => ?_, o5, o6⟩
        have y : s a.2.2.2.2 = 115 := y
        unfold cm_b at eb
        split at eb
        · exact absurd eb (by simp)
        · cases es : cm_s s L (a.2.2.2.2 + 1) with
          | none => rw [es] at eb; exact absurd eb (by simp)
          | some g =>
            rw [es] at eb
            rw [← Option.some.inj eb]
            obtain ⟨c1, c2, c3, c4, c5, c6, c7⟩ := cm_s_f es
            exact ⟨by dsimp only; omega, by dsimp only; omega, c7, c6, c5⟩
/-- Y's range states against the activation lines -/
def ya_R (active act ac : Nat → Int32) : Prop := ∀ k, k < 16 → (active k = 0 ∧ ac k = 0) ∨ (active k = 1 ∧ act k = ac k ∧ ¬ ac k = 0)
theorem ya_Ru {active act ac : Nat → Int32} {k : Nat} {x y z : Int32} (h : ya_R active act ac) (hh : (x = 0 ∧ z = 0) ∨ (x = 1 ∧ y = z ∧ ¬ z = 0)) : ya_R (upd active k x) (upd act k y) (upd ac k z) := by
  intro j hj
  by_cases e : j = k
  · rw [e, pk_us, pk_us, pk_us]; exact hh
  · rw [pk_un e, pk_un e, pk_un e]; exact h j hj
theorem ym_173 {b : Bool} {post : Int32 → SY → Prop} (hneg : Yneg = 0 ∨ Yneg = 1) (h : post (b2_i (b != decide (Yneg = 1))) (Yquiet, Yfuel, YscrLen, YinpLen, YhasTab, YnCmd, YoutLen, YpatLen, YholdLen, YlinesRead, YstepsUsed, Ytflag, YnAddr, Ya1K, Ya1V, Ya2K, Ya2V, Ycc, YlabS, YlabL, YsRe, YsRep, YadK, YadV, Yneg, YsG, YicN, Yna, YanS, YanE, YmJ, YrLen, Yscr, Yinp, YcmdPos, Yout, Ypat, Yhold, Yactive, Yact, Yic, Yie, YaC, YaAny, YaSt, Yrch, Ynx, Yrb)) : wY_select_173 post (b2_i b) Yquiet Yfuel YscrLen YinpLen YhasTab YnCmd YoutLen YpatLen YholdLen YlinesRead YstepsUsed Ytflag YnAddr Ya1K Ya1V Ya2K Ya2V Ycc YlabS YlabL YsRe YsRep YadK YadV Yneg YsG YicN Yna YanS YanE YmJ YrLen Yscr Yinp YcmdPos Yout Ypat Yhold Yactive Yact Yic Yie YaC YaAny YaSt Yrch Ynx Yrb := by
  rcases hneg with e | e
  · refine br_t e ⟨ba_nb (b2_01 b), ?_⟩
    rw [e] at h ⊢
    rw [decide_eq_false (by decide), Bool.bne_false] at h
    exact h
  · subst e
    rw [decide_eq_true rfl] at h
    refine br_f (by decide) ?_
    cases b
    · exact br_t rfl h
    · exact br_f (by decide) h
theorem ym_select {L I k n m q : Nat} {d : cm_T} {Mout Mhold Mac : Nat → Int32} {Mo Mh Mst : Nat} {Mt : Int32} {post : Int32 → SY → Prop} (hL : L ≤ 128) (hc : ch_ok Yscr L) (hI : I ≤ 128) (hk : k < 16) (hn : n ≤ 64) (hl : ln_I Yinp I m q) (hm1 : 1 ≤ m) (hok : cm_ok Yscr L d) (hH : yc_h YnAddr Ya1K Ya1V Ya2K Ya2V Ycc YlabS YlabL YsRe YsRep Yneg YsG d) (hA : ya_R Yactive Yact Mac)
    (h : ∀ active act icN na anS anE mj ic ie aC aAny aSt rch nx, ya_R active act (rn_sel Yscr L I d k (Mout, Mo, Ypat, n, Mhold, Mh, m, q, Mst, Mt, Mac)).2 → post (b2_i (rn_sel Yscr L I d k (Mout, Mo, Ypat, n, Mhold, Mh, m, q, Mst, Mt, Mac)).1) (Yquiet, Yfuel, nI L, nI I, YhasTab, YnCmd, YoutLen, nI n, YholdLen, nI m, YstepsUsed, Ytflag, YnAddr, Ya1K, Ya1V, Ya2K, Ya2V, Ycc, YlabS, YlabL, YsRe, YsRep, YadK, YadV, Yneg, YsG, icN, na, anS, anE, mj, YrLen, Yscr, Yinp, YcmdPos, Yout, Ypat, Yhold, active, act, ic, ie, aC, aAny, aSt, rch, nx, Yrb)) :
    wpY_select post (Yquiet, Yfuel, nI L, nI I, YhasTab, YnCmd, YoutLen, nI n, YholdLen, nI m, YstepsUsed, Ytflag, YnAddr, Ya1K, Ya1V, Ya2K, Ya2V, Ycc, YlabS, YlabL, YsRe, YsRep, YadK, YadV, Yneg, YsG, YicN, Yna, YanS, YanE, YmJ, YrLen, Yscr, Yinp, YcmdPos, Yout, Ypat, Yhold, Yactive, Yact, Yic, Yie, YaC, YaAny, YaSt, Yrch, Ynx, Yrb) (nI k) := by
  obtain ⟨y1, y2, y3, y4, y5, y6, y7, y8, y9⟩ := hH
  obtain ⟨o1, o2, o3, o4, o5⟩ := hok
  subst y1 y4
  have hm := ln_le hl
  have hkl := ln_kle Yinp I
  have vk : vp_in (nI k) 16 := pk_in k 16 hk
  have ck : (nI k).toNatClampNeg = k := nI_clamp (by omega)
  have nm0 : ¬ nI m = 0 := nI_ne0 hm1 (by omega)
  unfold rn_sel at h
  dsimp only at h
  unfold wpY_select
  refine pk_eq d.1.1 0 (fun e0 => ?_) (fun e0 => pk_eq d.1.1 1 (fun e1 => ?_) (fun e1 => ⟨vk, ?_⟩))
  · rw [if_pos e0] at h
    exact h _ _ _ _ _ _ _ _ _ _ _ _ _ _ hA
  · rw [if_neg e0, if_pos e1] at h
    obtain ⟨z1, z2⟩ := y2 e0
    subst z1 z2
    obtain ⟨q1, q2, q3⟩ := o3 e0
    refine ym_holds (Mout := Mout) (Mo := Mo) (Mhold := Mhold) (Mh := Mh) (Mst := Mst) (Mt := Mt) (Mac := Mac) hL hc hI hn hl q1 q3 (fun icN na anS anE mj ic ie aC aAny aSt rch nx => ?_)
    exact ym_173 o2 (h _ _ _ _ _ _ _ _ _ _ _ _ _ _ hA)
  · have e2 : d.1.1 = 2 := by omega
    rw [if_neg e0, if_neg e1] at h
    obtain ⟨z1, z2⟩ := y2 e0
    obtain ⟨z3, z4⟩ := y3 e2
    subst z1 z2 z3 z4
    obtain ⟨q1, q2, q3⟩ := o3 e0
    obtain ⟨p1, p2, p3⟩ := o4 e2
    rw [ck]
    refine br_c (fun a0 => ?_) (fun a0 => ⟨vk, ?_⟩)
    · have ac0 : Mac k = 0 := by
        rcases hA k hk with ⟨_, y⟩ | ⟨y, _⟩
        · exact y
        · rw [a0] at y; exact absurd y (by decide)
      rw [if_pos ac0] at h
      refine ym_holds (Mout := Mout) (Mo := Mo) (Mhold := Mhold) (Mh := Mh) (Mst := Mst) (Mt := Mt) (Mac := Mac) hL hc hI hn hl q1 q3 (fun icN na anS anE mj ic ie aC aAny aSt rch nx => ?_)
      cases hH : rn_H Yscr L I d.1.2.1.1 d.1.2.1.2 (Mout, Mo, Ypat, n, Mhold, Mh, m, q, Mst, Mt, Mac) with
      | false =>
        rw [hH, if_neg (by decide)] at h
        exact br_t rfl (ym_173 (b := false) o2 (h _ _ _ _ _ _ _ _ _ _ _ _ _ _ hA))
      | true =>
        rw [hH, if_pos rfl] at h
        refine br_f (by decide) ⟨vk, nm_e ⟨vk, nm_e ?_⟩⟩
        have on : ya_R (upd Yactive k 1) (upd Yact k (nI m)) (upd Mac k (nI m)) := ya_Ru hA (Or.inr ⟨rfl, rfl, nm0⟩)
        refine pk_eq d.1.2.2.1.1 1 (fun k1 => br_c (fun y => ?_) (fun y => ⟨vk, nm_e ?_⟩)) (fun k1 => ?_)
        · rw [if_neg (fun z => absurd y (Int32.not_lt.mpr z.2))] at h
          exact ym_173 (b := true) o2 (h _ _ _ _ _ _ _ _ _ _ _ _ _ _ on)
        · rw [if_pos ⟨k1, Int32.not_lt.mp y⟩] at h
          have off : ya_R (upd (upd Yactive k 1) k (vp_nar .boolean 0)) (upd Yact k (nI m)) Mac := by
            intro j hj
            by_cases e : j = k
            · rw [e, pk_us, pk_us]; exact Or.inl ⟨rfl, ac0⟩
            · rw [pk_un e, pk_un e, pk_un e]; exact hA j hj
          exact ym_173 (b := true) o2 (h _ _ _ _ _ _ _ _ _ _ _ _ _ _ off)
        · rw [if_neg (fun z => k1 z.1)] at h
          exact ym_173 (b := true) o2 (h _ _ _ _ _ _ _ _ _ _ _ _ _ _ on)
    · obtain ⟨a1, a2, a3⟩ : Yactive k = 1 ∧ Yact k = Mac k ∧ ¬ Mac k = 0 := by
        rcases hA k hk with ⟨y, _⟩ | y
        · exact absurd y a0
        · exact y
      rw [if_neg a3] at h
      rw [a2]
      have keep : ¬ (Mac k < nI m ∧ ((d.1.2.2.1.1 = 1 ∧ d.1.2.2.1.2 ≤ nI m) ∨ (¬ d.1.2.2.1.1 = 1 ∧ rn_H Yscr L I d.1.2.2.1.1 d.1.2.2.1.2 (Mout, Mo, Ypat, n, Mhold, Mh, m, q, Mst, Mt, Mac) = true))) → ∀ icN na anS anE mj ic ie aC aAny aSt rch nx, wY_select_173 post (b2_i true) Yquiet Yfuel (nI L) (nI I) YhasTab YnCmd YoutLen (nI n) YholdLen (nI m) YstepsUsed Ytflag (nI d.1.1) (nI d.1.2.1.1) d.1.2.1.2 (nI d.1.2.2.1.1) d.1.2.2.1.2 Ycc YlabS YlabL YsRe YsRep YadK YadV d.1.2.2.2.1 YsG icN na anS anE mj YrLen Yscr Yinp YcmdPos Yout Ypat Yhold Yactive Yact ic ie aC aAny aSt rch nx Yrb := by
        intro hh icN na anS anE mj ic ie aC aAny aSt rch nx
        rw [if_neg hh] at h
        exact ym_173 o2 (h _ _ _ _ _ _ _ _ _ _ _ _ _ _ hA)
      have off : (Mac k < nI m ∧ ((d.1.2.2.1.1 = 1 ∧ d.1.2.2.1.2 ≤ nI m) ∨ (¬ d.1.2.2.1.1 = 1 ∧ rn_H Yscr L I d.1.2.2.1.1 d.1.2.2.1.2 (Mout, Mo, Ypat, n, Mhold, Mh, m, q, Mst, Mt, Mac) = true))) → ∀ icN na anS anE mj ic ie aC aAny aSt rch nx, wY_select_173 post (b2_i true) Yquiet Yfuel (nI L) (nI I) YhasTab YnCmd YoutLen (nI n) YholdLen (nI m) YstepsUsed Ytflag (nI d.1.1) (nI d.1.2.1.1) d.1.2.1.2 (nI d.1.2.2.1.1) d.1.2.2.1.2 Ycc YlabS YlabL YsRe YsRep YadK YadV d.1.2.2.2.1 YsG icN na anS anE mj YrLen Yscr Yinp YcmdPos Yout Ypat Yhold (upd Yactive k 0) Yact ic ie aC aAny aSt rch nx Yrb := by
        intro hh icN na anS anE mj ic ie aC aAny aSt rch nx
        rw [if_pos hh] at h
        refine ym_173 o2 (h _ _ _ _ _ _ _ _ _ _ _ _ _ _ ?_)
        intro j hj
        dsimp only
        by_cases e : j = k
        · rw [e, pk_us, pk_us]; exact Or.inl ⟨rfl, rfl⟩
        · rw [pk_un e, pk_un e]; exact hA j hj
      refine br_c (fun y => keep (fun z => absurd z.1 (Int32.not_lt.mpr y)) _ _ _ _ _ _ _ _ _ _ _ _) (fun y => ?_)
      have lt : Mac k < nI m := Int32.not_le.mp y
      refine pk_eq d.1.2.2.1.1 1 (fun k1 => br_c (fun y2 => br_t rfl (keep (fun z => ?_) _ _ _ _ _ _ _ _ _ _ _ _)) (fun y2 => br_f (by decide) ⟨vk, nm_e ?_⟩)) (fun k1 => ?_)
      · rcases z.2 with w | w
        · exact absurd y2 (Int32.not_lt.mpr w.2)
        · exact w.1 k1
      · rw [ck]
        exact off ⟨lt, Or.inl ⟨k1, Int32.not_lt.mp y2⟩⟩ _ _ _ _ _ _ _ _ _ _ _ _
      · refine ym_holds (Mout := Mout) (Mo := Mo) (Mhold := Mhold) (Mh := Mh) (Mst := Mst) (Mt := Mt) (Mac := Mac) hL hc hI hn hl p1 p3 (fun icN na anS anE mj ic ie aC aAny aSt rch nx => ?_)
        cases hH : rn_H Yscr L I d.1.2.2.1.1 d.1.2.2.1.2 (Mout, Mo, Ypat, n, Mhold, Mh, m, q, Mst, Mt, Mac) with
        | false =>
          refine br_t rfl (keep (fun z => ?_) _ _ _ _ _ _ _ _ _ _ _ _)
          rcases z.2 with w | w
          · exact k1 w.1
          · rw [hH] at w; exact absurd w.2 (by decide)
        | true =>
          refine br_f (by decide) ⟨vk, nm_e ?_⟩
          rw [ck]
          exact off ⟨lt, Or.inr ⟨k1, hH⟩⟩ _ _ _ _ _ _ _ _ _ _ _ _
end YV_1
