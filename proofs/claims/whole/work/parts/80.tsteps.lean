/-! ===== pure: QUESTION's TESTs step by step, the reference ===== -/
def t_no1 (q : SM) : Option (Int32 × SM) := if (q.1 366 5) = 0 then ((f_Mo_qHasSquare 366 q).bind fun q17 => if q17 = 0 then (some (0, q)) else ((f_Mo_fail 366 1 (q.1 366 2) q).bind fun q19 => some (0, q19))) else (some (0, q))
def t_or1 (q : SM) : Option (Int32 × SM) := (lp_Mo_qGoesOnTest_137 366 jfuel q).bind fun q26 => (aS q26 (jpf 366 90) (q26.1 366 91) 11).bind fun M27 => some (1, sI M27 366 91 ((M27.1 366 91) + 1))
def t_and1 (q : SM) : Option (Int32 × SM) := (lp_Mo_qGoesOnTest_87 366 jfuel q).bind fun q31 => (aS q31 (jpf 366 90) (q31.1 366 91) 10).bind fun M32 => some (1, sI M32 366 91 ((M32.1 366 91) + 1))
def t_GR (q11 : SM) : Option (Int32 × SM) := (f_Mo_takes 366 (jpf 366 75) q11).bind fun q12 => if q12.1 = 0 then ((f_Mo_takes 366 (jpf 366 76) q12.2).bind fun q14 => if q14.1 = 0 then t_no1 q14.2 else t_or1 q14.2) else t_and1 q12.2
def t_SR (f : Nat) (q12 : Int32 × SM) : Option SM := (if q12.1 = 0 then (some (0, q12.2)) else (some (1, q12.2)) : Option (Int32 × SM)).bind fun q10 => lp_Mo_qTest_2 366 f q10.1 q10.2
def t_PS (f : Nat) (q9 : SM) : Option SM := (if (q9.1 366 5) = 0 then ((f_Mo_qGoesOnTest 366 q9).bind fun q12 => if q12.1 = 0 then (some (0, q12.2)) else (some (1, q12.2))) else (some (0, q9)) : Option (Int32 × SM)).bind fun q10 => lp_Mo_qTest_2 366 f q10.1 q10.2
def t_B (g f : Nat) (N : SM) : Option SM := ((lp_Mo_qGoesOnTest_0 366 g N).bind t_GR).bind (t_SR f)
def t_A (f : Nat) (N : SM) : Option SM := lp_Mo_qTest_2 366 f 1 N
def tw_and : List Nat := [97, 110, 100]
def tw_or : List Nat := [111, 114]
def tw_not : List Nat := [110, 111, 116]
section
variable {T : Nat → Nat} {n b a B o o0 g f : Nat} {W K Q Nk W0 : List Nat} {N N' : SM}
theorem t_goesOn : f_Mo_qGoesOnTest 366 N = (lp_Mo_qGoesOnTest_0 366 jfuel N).bind t_GR := rfl
theorem t_S0 : lp_Mo_qTest_2 366 (f + 1) 0 N = some N := by rw [lp_Mo_qTest_2]; exact if_pos rfl
theorem t_PS0 (h : N.1 366 5 = 0) : t_PS f N = t_B jfuel f N := by
  unfold t_PS t_B
  rw [if_pos h, t_goesOn, Option.bind_assoc, Option.bind_assoc, Option.bind_assoc]; rfl
theorem t_PS1 (h : ¬ N.1 366 5 = 0) : t_PS (f + 1) N = some N := by
  unfold t_PS
  rw [if_neg h]
  exact t_S0
theorem t_Ab (h : ¬ N.1 366 5 = 0) : t_A (f + 1) N = some N := by
  unfold t_A
  rw [lp_Mo_qTest_2, if_neg z_10, if_neg h]
theorem t_A1 (h : N.1 366 5 = 0) : t_A (f + 1) N = (f_Mo_look 366 N).bind fun q3 => if q3.1 = 91 then ((f_Mo_qOpens 366 25 (q3.2.1 366 2) q3.2).bind fun q5 => t_A f (sI q5 366 2 ((q5.1 366 2) + 1))) else ((f_Mo_isHere 366 (jpf 366 74) q3.2).bind fun q6 => if q6.1 = 0 then ((f_Mo_qFact 366 q6.2).bind fun q8 => (f_Mo_qDropsNots 366 q8).bind fun q9 => t_PS f q9) else ((f_Mo_qOpens 366 12 (q6.2.1 366 2) q6.2).bind fun q14 => (f_Mo_asks 366 (jpf 366 74) q14).bind fun q15 => t_A f q15)) := by
  unfold t_A
  rw [lp_Mo_qTest_2, if_neg z_10, if_pos h]; rfl
theorem y_st.mem {r : Nat} : ∀ {W : List Nat}, y_st r W N → ∀ k, k < W.length → ∃ x, x ∈ W ∧ N.1 r k = nI x ∧ x < 20000
  | [], _, k, hk => by rw [List.length_nil] at hk; omega
  | x :: W, h, k, hk => by
    rw [List.length_cons] at hk
    by_cases c : k < W.length
    · obtain ⟨y, hy, e⟩ := y_st.mem h.2 k c
      exact ⟨y, List.mem_cons_of_mem _ hy, e⟩
    · obtain rfl : k = W.length := by omega
      exact ⟨x, List.mem_cons_self .., h.1⟩
theorem y_st.app {r : Nat} : ∀ {Q : List Nat}, y_st r (Q ++ W) N → y_st r W N
  | [], h => h
  | _ :: Q, h => y_st.app (Q := Q) h.2
theorem m_sq1 (h : y_M B o (Q ++ 25 :: W) K N) (hl : Q.length + W.length < 1690) : f_Mo_qHasSquare 366 N = some 1 := by
  unfold f_Mo_qHasSquare
  have h25 : N.1 427 W.length = 25 := (h.2.1.app).1.1
  have hlen : (Q ++ 25 :: W).length = Q.length + (W.length + 1) := by rw [List.length_append, List.length_cons]
  have : z_ok (lp_Mo_qHasSquare_2 366 N jfuel (nI 0)) (fun t => t = .inr 1) := by
    refine z_loop0 (fun m c => lp_Mo_qHasSquare_2 366 N m c) (fun _ => True) _ W.length ?_ ?_ jfuel 0 (Nat.zero_le _) (by rw [z_jf]; omega) trivial
    · intro m c hc _ k
      show z_ok (lp_Mo_qHasSquare_2 366 N (m + 1) (nI c)) _
      rw [lp_Mo_qHasSquare_2, h.1, if_pos (nI_lt (by omega) (by omega)), jm_90, zi_427 _ (by omega)]
      simp only [Option.bind_some]
      by_cases e : N.1 427 c = 25
      · rw [if_pos e]; exact z_some rfl
      · rw [if_neg e, nI_1]; exact k trivial
    · intro m _
      show z_ok (lp_Mo_qHasSquare_2 366 N (m + 1) (nI W.length)) _
      rw [lp_Mo_qHasSquare_2, h.1, if_pos (nI_lt (by omega) (by omega)), jm_90, zi_427 _ (by omega)]
      simp only [Option.bind_some]
      rw [if_pos h25]; exact z_some rfl
  obtain ⟨t, e, rfl⟩ := this
  rw [zl_0, e]; rfl
theorem m_sq0 (h : y_M B o W K N) (hl : W.length < 1690) (h25 : ∀ x, x ∈ W → x ≠ 25) : f_Mo_qHasSquare 366 N = some 0 := by
  unfold f_Mo_qHasSquare
  have : z_ok (lp_Mo_qHasSquare_2 366 N jfuel (nI 0)) (fun t => t = .inl ()) := by
    refine z_loop0 (fun m c => lp_Mo_qHasSquare_2 366 N m c) (fun _ => True) _ W.length ?_ ?_ jfuel 0 (Nat.zero_le _) (by rw [z_jf]; omega) trivial
    · intro m c hc _ k
      show z_ok (lp_Mo_qHasSquare_2 366 N (m + 1) (nI c)) _
      obtain ⟨x, hx, ex, x2⟩ := h.2.1.mem c hc
      rw [lp_Mo_qHasSquare_2, h.1, if_pos (nI_lt (by omega) (by omega)), jm_90, zi_427 _ (by omega), ex]
      simp only [Option.bind_some]
      rw [if_neg (fun (e : nI x = 25) => h25 x hx ((nI_eq (b := 25) (by omega) (by decide)).mp e)), nI_1]; exact k trivial
    · intro m _
      show z_ok (lp_Mo_qHasSquare_2 366 N (m + 1) (nI W.length)) _
      rw [lp_Mo_qHasSquare_2, h.1, if_neg (nI_nlt (Nat.le_refl _) (by omega))]
      exact z_some rfl
  obtain ⟨t, e, rfl⟩ := this
  rw [zl_0, e]; rfl
theorem t_tk {α : Type} {p : Nat × List Nat} {F : Int32 × SM → Option α} {Q : α → Prop} (hp : p ∈ z_wl) (hw : z_wt n T) (hm : z_mb T n b) (h : z_RF T n b a N) (hK : z_KW N) (h1 : z_is T n b p.2 → ∀ q, z_RF T n (z_en T n b) (z_en T n b) q → z_LX N q → z_ok (F (1, q)) Q) (h0 : ¬ z_is T n b p.2 → ∀ q, z_RF T n b (z_sk T n b) q → z_LX N q → z_ok (F (0, q)) Q) :
    z_ok ((f_Mo_takes 366 (jpf 366 p.1) N).bind F) Q := by
  refine z_bind (y_takes hp hw hm h hK) (fun q hq => ?_)
  obtain ⟨v, q⟩ := q
  obtain ⟨x, hq⟩ := hq
  rcases hq with ⟨s, e, r⟩ | ⟨s, e, r⟩
  · have e : v = 1 := e
    rw [e]; exact h1 s _ r x
  · have e : v = 0 := e
    rw [e]; exact h0 s _ r x
theorem t_GR_s {Q : Int32 × SM → Prop} (hw : z_wt n T) (hm : z_mb T n b) (h : z_RF T n b a N) (hK : z_KW N)
    (hand : z_is T n b tw_and → ∀ q, z_RF T n (z_en T n b) (z_en T n b) q → z_LX N q → z_ok (t_and1 q) Q)
    (hor : z_is T n b tw_or → ∀ q, z_RF T n (z_en T n b) (z_en T n b) q → z_LX N q → z_ok (t_or1 q) Q)
    (hno : ¬ z_is T n b tw_and → ¬ z_is T n b tw_or → ∀ q, z_RF T n b (z_sk T n b) q → z_LX N q → z_ok (t_no1 q) Q) : z_ok (t_GR N) Q := by
  unfold t_GR
  refine t_tk (p := (75, tw_and)) (by decide) hw hm h hK (fun s q r x => z_neg z_10 (hand s q r x)) (fun s1 q1 r1 x1 => z_pos rfl ?_)
  exact t_tk (p := (76, tw_or)) (by decide) hw hm r1 (hK.lx x1) (fun s q r x => z_neg z_10 (hor s q r (x1.tr x))) (fun s2 q2 r2 x2 => z_pos rfl (hno s1 s2 q2 r2 (x1.tr x2)))
theorem t_lpg (h : N.1 366 5 = 0) : lp_Mo_qGoesOnTest_0 366 (g + 1) N = (f_Mo_look 366 N).bind fun q2 => if q2.1 = 93 then ((f_Mo_qHasSquare 366 q2.2).bind fun q4 => if q4 = 0 then (some q2.2) else (((lp_Mo_qGoesOnTest_33 366 jfuel (sI q2.2 366 2 ((q2.2.1 366 2) + 1))).bind fun q9 => f_Mo_qDropsNots 366 (sI (sI q9 366 91 ((q9.1 366 91) - 1)) 366 92 (((sI q9 366 91 ((q9.1 366 91) - 1)).1 366 92) - 1))).bind fun q10 => lp_Mo_qGoesOnTest_0 366 g q10)) else (some q2.2) := by
  rw [lp_Mo_qGoesOnTest_0, if_pos h]
  simp only [Option.bind_assoc]
theorem t_B_go (hw : z_wt n T) (hm : z_mb T n b) (h : z_RF T n b a N) (hM : y_M B o W K N) (hc : ¬ z_sg T n b 93 ∨ (W.length < 1690 ∧ ∀ x, x ∈ W → x ≠ 25)) : ∃ N1, (∀ g f, t_B (g + 1) f N = (t_GR N1).bind (t_SR f)) ∧ z_RF T n b (z_sk T n b) N1 ∧ z_LX N N1 := by
  obtain ⟨⟨v, N1⟩, e1, v1, r1, x1⟩ := m_look hw hm.1 h
  have v1 : v = _ := v1
  refine ⟨N1, fun g f => ?_, r1, x1⟩
  unfold t_B
  rw [t_lpg h.2.2.2.2.2.1, e1]
  simp only [Option.bind_some]
  by_cases c : z_sg T n b 93
  · rcases hc with q | ⟨q1, q2⟩
    · exact absurd c q
    · rw [m_sq0 (hM.lx x1) q1 q2]
      simp only [Option.bind_some, ite_true, ite_self]
  · rw [if_neg (fun (e : v = 93) => c ((m_lkS (c := 93) hw hm.1 (by unfold z_al; omega) (by decide)).mp (v1.symm.trans e)))]
    rfl
theorem t_B_and (hw : z_wt n T) (hm : z_mb T n b) (h : z_RF T n b a N) (hK : z_KW N) (hs : z_is T n b tw_and) (hM : y_M B o (Q ++ W) K N) (hQ : ∀ x, x ∈ Q → x = 10) (hW : y_nh (fun x => x = 10) W) (hl : Q.length + W.length + K.length < 1700) :
    ∃ N', (∀ g f, t_B (g + 1) f N = t_A f N') ∧ z_RF T n (z_en T n b) (z_en T n b) N' ∧ y_M B o (10 :: W) (Q.reverse ++ K) N' ∧ y_X N N' := by
  obtain ⟨N1, e1, r1, x1⟩ := t_B_go hw hm h hM (Or.inl (fun q => by have := hs.1; have := q.1; omega))
  obtain ⟨⟨v, N2⟩, e2, v2, r2, m2, x2⟩ := t_GR_s (Q := fun r => r.1 = 1 ∧ z_RF T n (z_en T n b) (z_en T n b) r.2 ∧ y_M B o (10 :: W) (Q.reverse ++ K) r.2 ∧ y_X N1 r.2) hw hm r1 (hK.lx x1)
    (fun _ q rq xq => by
      unfold t_and1
      refine z_bind (m_ands hW hQ ((hM.lx x1).lx xq) rq.2.2.2.2.2.1 (by omega) (by rw [z_jf]; omega)) (fun N3 k => ?_)
      obtain ⟨N4, e4, p4, y4⟩ := m_push (x := 10) k.1 (by omega) (by decide)
      rw [jm_90, zl_10, e4]
      exact z_some ⟨rfl, (rq.y k.2).y y4, p4, xq.yx.tr (k.2.tr y4).yx⟩)
    (fun s => by have := y_isu hs s; cases this)
    (fun s => absurd hs s)
  have v2 : v = 1 := v2
  refine ⟨N2, fun g f => ?_, r2, m2, x1.yx.tr x2⟩
  rw [e1, e2, v2]; rfl
theorem t_B_or (hw : z_wt n T) (hm : z_mb T n b) (h : z_RF T n b a N) (hK : z_KW N) (hs : z_is T n b tw_or) (hM : y_M B o (Q ++ W) K N) (hQ : ∀ x, x ∈ Q → x = 10 ∨ x = 11) (hW : y_nh (fun x => x = 10 ∨ x = 11) W) (hl : Q.length + W.length + K.length < 1700) :
    ∃ N', (∀ g f, t_B (g + 1) f N = t_A f N') ∧ z_RF T n (z_en T n b) (z_en T n b) N' ∧ y_M B o (11 :: W) (Q.reverse ++ K) N' ∧ y_X N N' := by
  obtain ⟨N1, e1, r1, x1⟩ := t_B_go hw hm h hM (Or.inl (fun q => by have := hs.1; have := q.1; omega))
  obtain ⟨⟨v, N2⟩, e2, v2, r2, m2, x2⟩ := t_GR_s (Q := fun r => r.1 = 1 ∧ z_RF T n (z_en T n b) (z_en T n b) r.2 ∧ y_M B o (11 :: W) (Q.reverse ++ K) r.2 ∧ y_X N1 r.2) hw hm r1 (hK.lx x1)
    (fun s => by have := y_isu hs s; cases this)
    (fun _ q rq xq => by
      unfold t_or1
      refine z_bind (m_ors hW hQ ((hM.lx x1).lx xq) rq.2.2.2.2.2.1 (by omega) (by rw [z_jf]; omega)) (fun N3 k => ?_)
      obtain ⟨N4, e4, p4, y4⟩ := m_push (x := 11) k.1 (by omega) (by decide)
      rw [jm_90, show (11 : Int32) = nI 11 from rfl, e4]
      exact z_some ⟨rfl, (rq.y k.2).y y4, p4, xq.yx.tr (k.2.tr y4).yx⟩)
    (fun _ s => absurd hs s)
  have v2 : v = 1 := v2
  refine ⟨N2, fun g f => ?_, r2, m2, x1.yx.tr x2⟩
  rw [e1, e2, v2]; rfl
theorem t_B_end (hw : z_wt n T) (hm : z_mb T n b) (h : z_RF T n b a N) (hK : z_KW N) (s1 : ¬ z_is T n b tw_and) (s2 : ¬ z_is T n b tw_or) (hM : y_M B o W K N) (hl : W.length < 1690) (hW : ∀ x, x ∈ W → x ≠ 25) :
    ∃ N', (∀ g f, t_B (g + 1) (f + 1) N = some N') ∧ z_RF T n b (z_sk T n b) N' ∧ y_M B o W K N' ∧ y_X N N' := by
  obtain ⟨N1, e1, r1, x1⟩ := t_B_go hw hm h hM (Or.inr ⟨hl, hW⟩)
  obtain ⟨⟨v, N2⟩, e2, v2, r2, x2⟩ := t_GR_s (Q := fun r => r.1 = 0 ∧ z_RF T n b (z_sk T n b) r.2 ∧ z_LX N1 r.2) hw hm r1 (hK.lx x1)
    (fun s => absurd s s1) (fun s => absurd s s2)
    (fun _ _ q rq xq => by
      unfold t_no1
      rw [if_pos rq.2.2.2.2.2.1, m_sq0 ((hM.lx x1).lx xq) hl hW]
      exact z_some ⟨rfl, rq, xq⟩)
  have v2 : v = 0 := v2
  refine ⟨N2, fun g f => ?_, r2, (hM.lx x1).lx x2, x1.yx.tr x2.yx⟩
  rw [e1, e2, v2]
  exact t_S0 (f := f)
theorem t_B_noClose (hw : z_wt n T) (hm : z_mb T n b) (h : z_RF T n b a N) (hK : z_KW N) (s0 : ¬ z_sg T n b 93) (s1 : ¬ z_is T n b tw_and) (s2 : ¬ z_is T n b tw_or) (hM : y_M B o (Q ++ 25 :: W) K N) (hl : Q.length + W.length < 1690) :
    ∃ N', (∀ g f, t_B (g + 1) (f + 1) N = some N') ∧ z_MF 1 (z_sk T n b) N' ∧ y_X N N' := by
  obtain ⟨N1, e1, r1, x1⟩ := t_B_go hw hm h hM (Or.inl s0)
  obtain ⟨⟨v, N2⟩, e2, v2, r2, x2⟩ := t_GR_s (Q := fun r => r.1 = 0 ∧ z_MF 1 (z_sk T n b) r.2 ∧ z_LX N1 r.2) hw hm r1 (hK.lx x1)
    (fun s => absurd s s1) (fun s => absurd s s2)
    (fun _ _ q rq xq => by
      unfold t_no1
      rw [if_pos rq.2.2.2.2.2.1, m_sq1 ((hM.lx x1).lx xq) hl]
      simp only [Option.bind_some]
      rw [if_neg z_10, rq.1, zl_1, m_fail rq.2.2.2.2.2.1]
      exact z_some ⟨rfl, z_MF.mk 1 _, xq.f⟩)
  have v2 : v = 0 := v2
  refine ⟨N2, fun g f => ?_, r2, x1.yx.tr x2.yx⟩
  rw [e1, e2, v2]
  exact t_S0 (f := f)
theorem t_B_close (hw : z_wt n T) (hm : z_mb T n b) (h : z_RF T n b a N) (s0 : z_sg T n b 93) (hM : y_M B (o + Nk.length + 1) (Q ++ 25 :: (Nk ++ W0)) K N) (hQ : ∀ x, x ∈ Q → x ≠ 25) (hNk : ∀ x, x ∈ Nk → x = 12) (hW : y_nh (fun x => x = 12) W0) (hl : Q.length + Nk.length + W0.length + K.length < 1690) :
    ∃ N', (∀ g f, t_B (g + 1) f N = t_B g f N') ∧ z_RF T n (z_en T n b) (z_en T n b) N' ∧ y_M B o W0 (Nk.reverse ++ (Q.reverse ++ K)) N' ∧ y_X N N' := by
  obtain ⟨⟨v, N1⟩, e1, v1, r1, x1⟩ := m_look hw hm.1 h
  have v1 : v = _ := v1
  have r1 : z_RF T n b (z_sk T n b) N1 := r1
  have x1 : z_LX N N1 := x1
  have v93 : v = 93 := v1.trans ((m_lkS hw hm.1 (c := 93) (by unfold z_al; omega) (by decide)).mpr s0)
  have ra : z_RF T n (z_en T n b) (z_en T n b) (sI N1 366 2 (nI (z_sk T n b + 1))) := z_RF.sg (c := 0) hm r1 s0.1
  obtain ⟨N3, e3, m3, y3⟩ := m_toSq (m := jfuel) (W := 25 :: (Nk ++ W0)) rfl hQ ((hM.lx x1).at (v := nI (z_sk T n b + 1))) ra.2.2.2.2.2.1 (by rw [List.length_cons, List.length_append]; omega) (by rw [z_jf]; omega)
  have r3 := ra.y y3
  obtain ⟨p1, p2, p3, p4⟩ := m3.pop
  have p5 := p1.oo
  have y4 : y_Y N3 (sI (sI N3 366 91 ((N3.1 366 91) - 1)) 366 92 (((sI N3 366 91 ((N3.1 366 91) - 1)).1 366 92) - 1)) := (y_Y.rf.s (by decide)).s (by decide)
  have r4 := r3.y y4
  obtain ⟨N5, e5, m5, y5⟩ := m_nots (m := jfuel) hW hNk p5 r4.2.2.2.2.2.1 (by simp only [List.length_append, List.length_reverse]; omega) (by rw [z_jf]; omega)
  refine ⟨N5, fun g f => ?_, r4.y y5, m5, x1.yx.tr ((y_X.rf.s (Or.inl rfl)).tr ((y3.tr y4).tr y5).yx)⟩
  unfold t_B
  rw [t_lpg h.2.2.2.2.2.1, e1]
  simp only [Option.bind_some]
  rw [if_pos v93, m_sq1 (hM.lx x1) (by rw [List.length_append]; omega)]
  simp only [Option.bind_some]
  rw [if_neg z_10, r1.1, nI_1, e3]
  simp only [Option.bind_some]
  unfold f_Mo_qDropsNots
  rw [e5]; rfl
end
