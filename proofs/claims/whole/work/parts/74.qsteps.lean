/-! ===== pure: QUESTION's SUMs step by step, the reference ===== -/
def y_mul1 (q : SM) : Option (Int32 × SM) := (aI q (jpf 366 0) ((q.1 366 2) - 1)).bind fun v => (if v = 42 then (some 3) else (some 4) : Option (Int32)).bind fun x => (lp_Mo_qGoesOn_162 366 jfuel q).bind fun r => (aS r (jpf 366 90) (r.1 366 91) x).bind fun M => some (1, sI M 366 91 ((M.1 366 91) + 1))
def y_add1 (q : SM) : Option (Int32 × SM) := (aI q (jpf 366 0) ((q.1 366 2) - 1)).bind fun v => (if v = 43 then (some 1) else (some 2) : Option (Int32)).bind fun x => (lp_Mo_qGoesOn_247 366 jfuel q).bind fun r => (aS r (jpf 366 90) (r.1 366 91) x).bind fun M => some (1, sI M 366 91 ((M.1 366 91) + 1))
def y_com (q : SM) : Option (Int32 × SM) := (f_Mo_asksSign 366 44 q).bind fun r => if (r.1 366 5) = 0 then ((f_Mo_qDropsToBracket 366 r).bind fun s => (aI s (jpf 366 90) ((s.1 366 91) - 1)).bind fun v => (aS s (jpf 366 90) ((s.1 366 91) - 1) (v + 2)).bind fun M => some (1, M)) else (some (0, r))
def y_no1 (q : SM) : Option (Int32 × SM) := (f_Mo_qBracket 366 q).bind fun x => if x = 21 then y_com q else ((f_Mo_qBracket 366 q).bind fun y => if y = 22 then y_com q else ((f_Mo_qBracket 366 q).bind fun z => if z = (-1) then (some (0, q)) else (if (q.1 366 5) = 0 then ((f_Mo_fail 366 1 (q.1 366 2) q).bind fun s => some (0, s)) else (some (0, q)))))
def y_GR (q : SM) : Option (Int32 × SM) := (f_Mo_takesSign 366 42 q).bind fun q38 => if q38.1 = 0 then ((f_Mo_takesSign 366 47 q38.2).bind fun q40 => if q40.1 = 0 then ((f_Mo_takesSign 366 43 q40.2).bind fun q42 => if q42.1 = 0 then ((f_Mo_takesSign 366 45 q42.2).bind fun q44 => if q44.1 = 0 then y_no1 q44.2 else y_add1 q44.2) else y_add1 q42.2) else y_mul1 q40.2) else y_mul1 q38.2
def y_PR (q41 : SM) : Option SM := if (q41.1 366 5) = 0 then ((f_Mo_qWordOf 366 0 6 q41).bind fun q43 => (if q43.1 = (-1) then (some q43.2) else ((f_Mo_qAsksWord 366 q43.1 q43.2).bind fun q46 => some q46) : Option (SM)).bind fun q44 => (if q43.1 = (-1) then ((f_Mo_number 366 0 9999 q44).bind fun q49 => some (1000 + q49.1, q49.2)) else (some (40 + q43.1, q44)) : Option (Int32 × SM)).bind fun q47 => (f_Mo_qCode 366 q47.1 q47.2).bind fun q50 => (f_Mo_qEndsPart 366 q50).bind fun q51 => some q51) else (some q41)
def y_SR (f : Nat) (q6 : Int32 × SM) : Option SM := (if q6.1 = 0 then (some (0, q6.2)) else (some (1, q6.2)) : Option (Int32 × SM)).bind fun q4 => lp_Mo_qSums_15 366 f q4.1 q4.2
def y_PS (f : Nat) (q3 : SM) : Option SM := (if (q3.1 366 5) = 0 then ((f_Mo_qGoesOn 366 q3).bind fun q6 => if q6.1 = 0 then (some (0, q6.2)) else (some (1, q6.2))) else (some (0, q3)) : Option (Int32 × SM)).bind fun q4 => lp_Mo_qSums_15 366 f q4.1 q4.2
def y_B (g f : Nat) (N : SM) : Option SM := ((lp_Mo_qGoesOn_0 366 g N).bind y_GR).bind (y_SR f)
def y_A (g f : Nat) (N : SM) : Option SM := ((lp_Mo_qPartTold_2 366 g 1 N).bind y_PR).bind (y_PS f)
def y_mm (q10 : SM) : Option (Int32 × SM) := (f_Mo_takes 366 (jpf 366 78) q10).bind fun q15 => (if q15.1 = 0 then ((f_Mo_asks 366 (jpf 366 79) q15.2).bind fun q18 => some q18) else (some q15.2) : Option (SM)).bind fun q16 => (f_Mo_look 366 q16).bind fun q19 => (if q19.1 = 40 then (some (q19.2.1 366 2)) else (some (-1)) : Option (Int32)).bind fun q20 => (if q20 = (-1) then (some q19.2) else ((if q15.1 = 0 then (some 22) else (some 21) : Option (Int32)).bind fun q24 => (f_Mo_qOpens 366 q24 q20 q19.2).bind fun q26 => some q26) : Option (SM)).bind fun q22 => (f_Mo_asksSign 366 40 q22).bind fun q27 => some (1, q27)
def y_it (N : SM) : Option (Int32 × SM) := (f_Mo_look 366 N).bind fun q3 => (f_Mo_qWordOf 366 6 8 q3.2).bind fun q4 => (if q3.1 = 40 then ((f_Mo_qOpens 366 20 (q4.2.1 366 2) q4.2).bind fun q7 => some (1, sI q7 366 2 ((q7.1 366 2) + 1))) else ((f_Mo_isHere 366 (jpf 366 78) q4.2).bind fun q8 => if q8.1 = 0 then ((f_Mo_isHere 366 (jpf 366 79) q8.2).bind fun q10 => if q10.1 = 0 then (if q4.1 = (-1) then (some (0, q10.2)) else ((f_Mo_qOpens 366 ((60 + q4.1) - 6) (q10.2.1 366 2) q10.2).bind fun q13 => (f_Mo_qAsksWord 366 q4.1 q13).bind fun q14 => some (1, q14))) else y_mm q10.2) else y_mm q8.2) : Option (Int32 × SM))
def y_cl (m : Nat) (q : SM) : Option SM := (f_Mo_qDropsToBracket 366 (sI q 366 2 ((q.1 366 2) + 1))).bind fun q6 => (aI (sI (sI q6 366 91 ((q6.1 366 91) - 1)) 366 92 (((sI q6 366 91 ((q6.1 366 91) - 1)).1 366 92) - 1)) (jpf 366 90) ((sI (sI q6 366 91 ((q6.1 366 91) - 1)) 366 92 (((sI q6 366 91 ((q6.1 366 91) - 1)).1 366 92) - 1)).1 366 91)).bind fun v7 => (if v7 = 20 then (some (sI (sI q6 366 91 ((q6.1 366 91) - 1)) 366 92 (((sI q6 366 91 ((q6.1 366 91) - 1)).1 366 92) - 1))) else ((aI (sI (sI q6 366 91 ((q6.1 366 91) - 1)) 366 92 (((sI q6 366 91 ((q6.1 366 91) - 1)).1 366 92) - 1)) (jpf 366 90) ((sI (sI q6 366 91 ((q6.1 366 91) - 1)) 366 92 (((sI q6 366 91 ((q6.1 366 91) - 1)).1 366 92) - 1)).1 366 91)).bind fun v10 => (if v10 = 23 then (some 5) else (some 6) : Option (Int32)).bind fun q11 => (f_Mo_qCode 366 q11 (sI (sI q6 366 91 ((q6.1 366 91) - 1)) 366 92 (((sI q6 366 91 ((q6.1 366 91) - 1)).1 366 92) - 1))).bind fun q13 => some q13) : Option (SM)).bind fun q8 => (f_Mo_qEndsPart 366 q8).bind fun q14 => lp_Mo_qGoesOn_0 366 m q14
def y_cl0 (q : SM) : Option SM := (f_Mo_qDropsToBracket 366 (sI q 366 2 ((q.1 366 2) + 1))).bind fun q6 => (aI (sI (sI q6 366 91 ((q6.1 366 91) - 1)) 366 92 (((sI q6 366 91 ((q6.1 366 91) - 1)).1 366 92) - 1)) (jpf 366 90) ((sI (sI q6 366 91 ((q6.1 366 91) - 1)) 366 92 (((sI q6 366 91 ((q6.1 366 91) - 1)).1 366 92) - 1)).1 366 91)).bind fun v7 => (if v7 = 20 then (some (sI (sI q6 366 91 ((q6.1 366 91) - 1)) 366 92 (((sI q6 366 91 ((q6.1 366 91) - 1)).1 366 92) - 1))) else ((aI (sI (sI q6 366 91 ((q6.1 366 91) - 1)) 366 92 (((sI q6 366 91 ((q6.1 366 91) - 1)).1 366 92) - 1)) (jpf 366 90) ((sI (sI q6 366 91 ((q6.1 366 91) - 1)) 366 92 (((sI q6 366 91 ((q6.1 366 91) - 1)).1 366 92) - 1)).1 366 91)).bind fun v10 => (if v10 = 23 then (some 5) else (some 6) : Option (Int32)).bind fun q11 => (f_Mo_qCode 366 q11 (sI (sI q6 366 91 ((q6.1 366 91) - 1)) 366 92 (((sI q6 366 91 ((q6.1 366 91) - 1)).1 366 92) - 1))).bind fun q13 => some q13) : Option (SM)).bind fun q8 => f_Mo_qEndsPart 366 q8
section
variable {T : Nat → Nat} {n b a B o o0 g f : Nat} {W K Q Lk W0 : List Nat} {N N' : SM}
theorem y_goesOn : f_Mo_qGoesOn 366 N = (lp_Mo_qGoesOn_0 366 jfuel N).bind y_GR := rfl
theorem y_partTold : f_Mo_qPartTold 366 N = (lp_Mo_qPartTold_2 366 jfuel 1 N).bind y_PR := rfl
theorem y_A0 (h : N.1 366 5 = 0) : lp_Mo_qSums_15 366 (f + 1) 1 N = y_A jfuel f N := by
  rw [lp_Mo_qSums_15, if_neg z_10, if_pos h]; rfl
theorem y_S0 : lp_Mo_qSums_15 366 (f + 1) 0 N = some N := by rw [lp_Mo_qSums_15]; exact if_pos rfl
theorem y_PS0 (h : N.1 366 5 = 0) : y_PS f N = y_B jfuel f N := by
  unfold y_PS y_B
  rw [if_pos h, y_goesOn, Option.bind_assoc, Option.bind_assoc, Option.bind_assoc]; rfl
theorem y_PS1 (h : ¬ N.1 366 5 = 0) : y_PS (f + 1) N = some N := by
  unfold y_PS
  rw [if_neg h]
  exact y_S0
theorem y_ptbad {x : Int32} (h : ¬ N.1 366 5 = 0) : lp_Mo_qPartTold_2 366 (g + 1) x N = some N := by
  rw [lp_Mo_qPartTold_2, if_neg h]
  split <;> rfl
theorem y_PRb (h : ¬ N.1 366 5 = 0) : y_PR N = some N := if_neg h
theorem y_lp1 (h : N.1 366 5 = 0) : lp_Mo_qPartTold_2 366 (g + 1) 1 N = (y_it N).bind fun q5 => lp_Mo_qPartTold_2 366 g q5.1 q5.2 := by
  rw [lp_Mo_qPartTold_2, if_neg z_10, if_pos h]
  unfold y_it
  rw [Option.bind_assoc]
  congr 1; funext q3
  rw [Option.bind_assoc]; rfl
theorem y_lpg (h : N.1 366 5 = 0) : lp_Mo_qGoesOn_0 366 (g + 1) N = (f_Mo_look 366 N).bind fun q2 => if q2.1 = 41 then ((f_Mo_qBracket 366 q2.2).bind fun q4 => if q4 = 20 then y_cl g q2.2 else ((f_Mo_qBracket 366 q2.2).bind fun q15 => if q15 = 23 then y_cl g q2.2 else ((f_Mo_qBracket 366 q2.2).bind fun q26 => if q26 = 24 then y_cl g q2.2 else some q2.2))) else some q2.2 := by
  rw [lp_Mo_qGoesOn_0, if_pos h]; rfl
theorem y_cl_e {m : Nat} {q : SM} : y_cl m q = (y_cl0 q).bind fun q14 => lp_Mo_qGoesOn_0 366 m q14 := by
  unfold y_cl y_cl0
  simp only [Option.bind_assoc]
theorem y_ts {α : Type} {c : Nat} {F : Int32 × SM → Option α} {Q : α → Prop} (hc : ¬ z_al c) (hc2 : c < 256) (hw : z_wt n T) (hm : z_mb T n b) (h : z_RF T n b a N) (h1 : z_sg T n b c → ∀ q, z_RF T n (z_en T n b) (z_en T n b) q → z_LX N q → z_ok (F (1, q)) Q) (h0 : ¬ z_sg T n b c → ∀ q, z_RF T n b (z_sk T n b) q → z_LX N q → z_ok (F (0, q)) Q) :
    z_ok ((f_Mo_takesSign 366 (nI c) N).bind F) Q := by
  refine z_bind (m_takesS hw hm h hc hc2) (fun q hq => ?_)
  obtain ⟨v, q⟩ := q
  obtain ⟨x, hq⟩ := hq
  rcases hq with ⟨s, e, r⟩ | ⟨s, e, r⟩
  · have e : v = 1 := e
    rw [e]; exact h1 s _ r x
  · have e : v = 0 := e
    rw [e]; exact h0 s _ r x
theorem y_GR_s {Q : Int32 × SM → Prop} (hw : z_wt n T) (hm : z_mb T n b) (h : z_RF T n b a N)
    (hmul : ∀ c, c = 42 ∨ c = 47 → z_sg T n b c → ∀ q, z_RF T n (z_en T n b) (z_en T n b) q → z_LX N q → z_ok (y_mul1 q) Q)
    (hadd : ∀ c, c = 43 ∨ c = 45 → z_sg T n b c → ∀ q, z_RF T n (z_en T n b) (z_en T n b) q → z_LX N q → z_ok (y_add1 q) Q)
    (hno : ¬ z_sg T n b 42 → ¬ z_sg T n b 47 → ¬ z_sg T n b 43 → ¬ z_sg T n b 45 → ∀ q, z_RF T n b (z_sk T n b) q → z_LX N q → z_ok (y_no1 q) Q) : z_ok (y_GR N) Q := by
  unfold y_GR
  refine y_ts (c := 42) (by unfold z_al; omega) (by decide) hw hm h (fun s q r x => z_neg z_10 (hmul 42 (Or.inl rfl) s q r x)) (fun s1 q1 r1 x1 => z_pos rfl ?_)
  refine y_ts (c := 47) (by unfold z_al; omega) (by decide) hw hm r1 (fun s q r x => z_neg z_10 (hmul 47 (Or.inr rfl) s q r (x1.tr x))) (fun s2 q2 r2 x2 => z_pos rfl ?_)
  refine y_ts (c := 43) (by unfold z_al; omega) (by decide) hw hm r2 (fun s q r x => z_neg z_10 (hadd 43 (Or.inl rfl) s q r ((x1.tr x2).tr x))) (fun s3 q3 r3 x3 => z_pos rfl ?_)
  refine y_ts (c := 45) (by unfold z_al; omega) (by decide) hw hm r3 (fun s q r x => z_neg z_10 (hadd 45 (Or.inr rfl) s q r (((x1.tr x2).tr x3).tr x))) (fun s4 q4 r4 x4 => z_pos rfl (hno s1 s2 s3 s4 q4 r4 (((x1.tr x2).tr x3).tr x4)))
/-- the sign that was taken -/
theorem m_sgn {c : Nat} (hw : z_wt n T) (hb : b ≤ n) (hs : z_sg T n b c) (h : z_RF T n (z_en T n b) (z_en T n b) N) : aI N (jpf 366 0) ((N.1 366 2) - 1) = some (nI c) := by
  have hn := hw.1
  have h3 := (z_so_3.mp hs.1).1
  rw [h.1, z_en_3 hs.1, z_ls (by omega), Nat.add_sub_cancel, jm_0, zi_367 _ (by omega), h.2.2.2.2.2.2.2 _ h3, hs.2]
theorem m_mul1 {c : Nat} (hc : c = 42 ∨ c = 47) (hw : z_wt n T) (hb : b ≤ n) (hs : z_sg T n b c) (h : z_RF T n (z_en T n b) (z_en T n b) N) (hM : y_M B o (Q ++ W) K N) (hQ : ∀ x, x ∈ Q → y_mu x) (hW : y_nh y_mu W) (hl : Q.length + W.length + K.length < 1700) (hq : Q.length < 1700) :
    z_ok (y_mul1 N) (fun r => r.1 = 1 ∧ z_RF T n (z_en T n b) (z_en T n b) r.2 ∧ y_M B o ((if c = 42 then 3 else 4) :: W) (Q.reverse ++ K) r.2 ∧ y_Y N r.2) := by
  unfold y_mul1
  rw [m_sgn hw hb hs h]
  simp only [Option.bind_some]
  have e : (if nI c = 42 then (some 3) else (some 4) : Option (Int32)) = some (nI (if c = 42 then 3 else 4)) := by rcases hc with rfl | rfl <;> rfl
  rw [e]
  simp only [Option.bind_some]
  refine z_bind (m_muls hW hQ hM h.2.2.2.2.2.1 (by omega) (by rw [z_jf]; omega)) (fun N1 k => ?_)
  obtain ⟨N2, e2, p2, y2⟩ := m_push (x := if c = 42 then 3 else 4) k.1 (by omega) (by split <;> decide)
  rw [jm_90, e2]
  exact z_some ⟨rfl, (h.y k.2).y y2, p2, k.2.tr y2⟩
theorem m_add1 {c : Nat} (hc : c = 43 ∨ c = 45) (hw : z_wt n T) (hb : b ≤ n) (hs : z_sg T n b c) (h : z_RF T n (z_en T n b) (z_en T n b) N) (hM : y_M B o (Q ++ W) K N) (hQ : ∀ x, x ∈ Q → y_su x) (hW : y_nh y_su W) (hl : Q.length + W.length + K.length < 1700) (hq : Q.length < 1700) :
    z_ok (y_add1 N) (fun r => r.1 = 1 ∧ z_RF T n (z_en T n b) (z_en T n b) r.2 ∧ y_M B o ((if c = 43 then 1 else 2) :: W) (Q.reverse ++ K) r.2 ∧ y_Y N r.2) := by
  unfold y_add1
  rw [m_sgn hw hb hs h]
  simp only [Option.bind_some]
  have e : (if nI c = 43 then (some 1) else (some 2) : Option (Int32)) = some (nI (if c = 43 then 1 else 2)) := by rcases hc with rfl | rfl <;> rfl
  rw [e]
  simp only [Option.bind_some]
  refine z_bind (m_sums hW hQ hM h.2.2.2.2.2.1 (by omega) (by rw [z_jf]; omega)) (fun N1 k => ?_)
  obtain ⟨N2, e2, p2, y2⟩ := m_push (x := if c = 43 then 1 else 2) k.1 (by omega) (by split <;> decide)
  rw [jm_90, e2]
  exact z_some ⟨rfl, (h.y k.2).y y2, p2, k.2.tr y2⟩
/-- how many codes are told -/
def y_cb (N : SM) : Prop := ∃ k, k < 1690 ∧ N.1 366 89 = nI k
theorem y_M.cb (h : y_M B o W K N) (hk : K.length < 1690) : y_cb N := ⟨_, hk, h.2.2.1⟩
theorem y_cb.lx (h : y_cb N) (k : z_LX N N') : y_cb N' := h.elim fun j q => ⟨j, q.1, (k.2 89 (by decide)).trans q.2⟩
/-- where no ) closes -/
theorem y_B_go (hw : z_wt n T) (hm : z_mb T n b) (h : z_RF T n b a N) (hM : y_M B o W K N) (hc : ¬ z_sg T n b 41 ∨ ∃ x, (x = -1 ∨ x = 21 ∨ x = 22) ∧ ∀ N', y_M B o W K N' → f_Mo_qBracket 366 N' = some x) : ∃ N1, (∀ g f, y_B (g + 1) f N = (y_GR N1).bind (y_SR f)) ∧ z_RF T n b (z_sk T n b) N1 ∧ z_LX N N1 := by
  obtain ⟨⟨v, N1⟩, e1, v1, r1, x1⟩ := m_look hw hm.1 h
  have v1 : v = _ := v1
  refine ⟨N1, fun g f => ?_, r1, x1⟩
  unfold y_B
  rw [y_lpg h.2.2.2.2.2.1, e1]
  simp only [Option.bind_some]
  by_cases c : z_sg T n b 41
  · rcases hc with q | ⟨x, hx, hb⟩
    · exact absurd c q
    · rw [hb N1 (hM.lx x1)]
      simp only [Option.bind_some]
      have : ¬ x = 20 ∧ ¬ x = 23 ∧ ¬ x = 24 := by rcases hx with rfl | rfl | rfl <;> decide
      rw [if_neg this.1, if_neg this.2.1, if_neg this.2.2]
      simp only [ite_self, Option.bind_some]
  · rw [if_neg (fun (e : v = 41) => c ((m_lkS hw hm.1 (by unfold z_al; omega) (by decide)).mp (v1.symm.trans e)))]
    rfl
theorem y_B_mul {c : Nat} (hc : c = 42 ∨ c = 47) (hw : z_wt n T) (hm : z_mb T n b) (h : z_RF T n b a N) (hs : z_sg T n b c) (hM : y_M B o (Q ++ W) K N) (hQ : ∀ x, x ∈ Q → y_mu x) (hW : y_nh y_mu W) (hl : Q.length + W.length + K.length < 1700) :
    ∃ N', (∀ g f, y_B (g + 1) (f + 1) N = y_A jfuel f N') ∧ z_RF T n (z_en T n b) (z_en T n b) N' ∧ y_M B o ((if c = 42 then 3 else 4) :: W) (Q.reverse ++ K) N' ∧ y_X N N' := by
  obtain ⟨N1, e1, r1, x1⟩ := y_B_go hw hm h hM (Or.inl (fun q => by have := y_sg1 hs q; omega))
  obtain ⟨⟨v, N2⟩, e2, v2, r2, m2, x2⟩ := y_GR_s (Q := fun r => r.1 = 1 ∧ z_RF T n (z_en T n b) (z_en T n b) r.2 ∧ y_M B o ((if c = 42 then 3 else 4) :: W) (Q.reverse ++ K) r.2 ∧ y_X N1 r.2) hw hm r1
    (fun d hd sd q rq xq => by
      obtain rfl := y_sg1 hs sd
      exact z_mono (m_mul1 hc hw hm.1 hs rq ((hM.lx x1).lx xq) hQ hW hl (by omega)) (fun r k => ⟨k.1, k.2.1, k.2.2.1, xq.yx.tr k.2.2.2.yx⟩))
    (fun d hd sd q _ _ => by have := y_sg1 hs sd; omega)
    (fun a1 a2 _ _ q _ _ => by rcases hc with rfl | rfl <;> contradiction)
  have v2 : v = 1 := v2
  refine ⟨N2, fun g f => ?_, r2, m2, x1.yx.tr x2⟩
  rw [e1, e2, v2]
  exact y_A0 r2.2.2.2.2.2.1
theorem y_B_add {c : Nat} (hc : c = 43 ∨ c = 45) (hw : z_wt n T) (hm : z_mb T n b) (h : z_RF T n b a N) (hs : z_sg T n b c) (hM : y_M B o (Q ++ W) K N) (hQ : ∀ x, x ∈ Q → y_su x) (hW : y_nh y_su W) (hl : Q.length + W.length + K.length < 1700) :
    ∃ N', (∀ g f, y_B (g + 1) (f + 1) N = y_A jfuel f N') ∧ z_RF T n (z_en T n b) (z_en T n b) N' ∧ y_M B o ((if c = 43 then 1 else 2) :: W) (Q.reverse ++ K) N' ∧ y_X N N' := by
  obtain ⟨N1, e1, r1, x1⟩ := y_B_go hw hm h hM (Or.inl (fun q => by have := y_sg1 hs q; omega))
  obtain ⟨⟨v, N2⟩, e2, v2, r2, m2, x2⟩ := y_GR_s (Q := fun r => r.1 = 1 ∧ z_RF T n (z_en T n b) (z_en T n b) r.2 ∧ y_M B o ((if c = 43 then 1 else 2) :: W) (Q.reverse ++ K) r.2 ∧ y_X N1 r.2) hw hm r1
    (fun d hd sd q _ _ => by have := y_sg1 hs sd; omega)
    (fun d hd sd q rq xq => by
      obtain rfl := y_sg1 hs sd
      exact z_mono (m_add1 hc hw hm.1 hs rq ((hM.lx x1).lx xq) hQ hW hl (by omega)) (fun r k => ⟨k.1, k.2.1, k.2.2.1, xq.yx.tr k.2.2.2.yx⟩))
    (fun _ _ a1 a2 q _ _ => by rcases hc with rfl | rfl <;> contradiction)
  have v2 : v = 1 := v2
  refine ⟨N2, fun g f => ?_, r2, m2, x1.yx.tr x2⟩
  rw [e1, e2, v2]
  exact y_A0 r2.2.2.2.2.2.1
theorem y_nbr {x : Nat} (h : y_su x) : ¬ y_br x := by unfold y_su at h; unfold y_br; omega
/-- no sign, nothing open -/
theorem y_B_end (hw : z_wt n T) (hm : z_mb T n b) (h : z_RF T n b a N) (s1 : ¬ z_sg T n b 42) (s2 : ¬ z_sg T n b 47) (s3 : ¬ z_sg T n b 43) (s4 : ¬ z_sg T n b 45) (hM : y_M B o (Q ++ W) K N) (hQ : ∀ x, x ∈ Q → y_su x) (hB : W.length = B) (hl : Q.length + W.length + K.length < 1700) :
    ∃ N', (∀ g f, y_B (g + 1) (f + 1) N = some N') ∧ z_RF T n b (z_sk T n b) N' ∧ y_M B o (Q ++ W) K N' ∧ y_X N N' := by
  have br : ∀ N', y_M B o (Q ++ W) K N' → f_Mo_qBracket 366 N' = some (-1) := fun N' hM' => m_br0 hB (fun x hx => y_nbr (hQ x hx)) hM' (by omega)
  obtain ⟨N1, e1, r1, x1⟩ := y_B_go hw hm h hM (Or.inr ⟨-1, Or.inl rfl, br⟩)
  obtain ⟨⟨v, N2⟩, e2, v2, r2, x2⟩ := y_GR_s (Q := fun r => r.1 = 0 ∧ z_RF T n b (z_sk T n b) r.2 ∧ z_LX N1 r.2) hw hm r1
    (fun d hd sd q _ _ => by rcases hd with rfl | rfl <;> contradiction)
    (fun d hd sd q _ _ => by rcases hd with rfl | rfl <;> contradiction)
    (fun _ _ _ _ q rq xq => by
      unfold y_no1
      rw [br q ((hM.lx x1).lx xq)]
      simp only [Option.bind_some]
      exact z_some ⟨rfl, rq, xq⟩)
  have v2 : v = 0 := v2
  refine ⟨N2, fun g f => ?_, r2, (hM.lx x1).lx x2, x1.yx.tr x2.yx⟩
  rw [e1, e2, v2]
  exact y_S0 (f := f)
/-- no sign, a bracket that waits for its ) -/
theorem y_B_noClose {c : Nat} {W' : List Nat} (hc : c = 20 ∨ c = 23 ∨ c = 24) (hw : z_wt n T) (hm : z_mb T n b) (h : z_RF T n b a N) (s0 : ¬ z_sg T n b 41) (s1 : ¬ z_sg T n b 42) (s2 : ¬ z_sg T n b 47) (s3 : ¬ z_sg T n b 43) (s4 : ¬ z_sg T n b 45) (hM : y_M B o (Q ++ c :: W') K N) (hQ : ∀ x, x ∈ Q → y_su x) (hB : B ≤ W'.length) (hl : Q.length + W'.length + K.length < 1690) :
    ∃ N', (∀ g f, y_B (g + 1) (f + 1) N = some N') ∧ z_MF 1 (z_sk T n b) N' ∧ y_cb N' ∧ y_X N N' := by
  have br : ∀ N', y_M B o (Q ++ c :: W') K N' → f_Mo_qBracket 366 N' = some (nI c) := fun N' hM' => m_br1 (y := c) rfl (by unfold y_br; omega) hB (fun x hx => y_nbr (hQ x hx)) hM' (by rw [List.length_cons]; omega)
  obtain ⟨N1, e1, r1, x1⟩ := y_B_go hw hm h hM (Or.inl s0)
  obtain ⟨⟨v, N2⟩, e2, v2, r2, x2⟩ := y_GR_s (Q := fun r => r.1 = 0 ∧ z_MF 1 (z_sk T n b) r.2 ∧ z_LX N1 r.2) hw hm r1
    (fun d hd sd q _ _ => by rcases hd with rfl | rfl <;> contradiction)
    (fun d hd sd q _ _ => by rcases hd with rfl | rfl <;> contradiction)
    (fun _ _ _ _ q rq xq => by
      unfold y_no1
      rw [br q ((hM.lx x1).lx xq)]
      have : ¬ nI c = 21 ∧ ¬ nI c = 22 ∧ ¬ nI c = -1 := by rcases hc with rfl | rfl | rfl <;> decide
      simp only [Option.bind_some]
      rw [if_neg this.1, if_neg this.2.1, if_neg this.2.2, if_pos rq.2.2.2.2.2.1, rq.1, zl_1, m_fail rq.2.2.2.2.2.1]
      exact z_some ⟨rfl, z_MF.mk 1 _, xq.f⟩)
  have v2 : v = 0 := v2
  refine ⟨N2, fun g f => ?_, r2, ((hM.cb (by omega)).lx x1).lx x2, x1.yx.tr x2.yx⟩
  rw [e1, e2, v2]
  exact y_S0 (f := f)
/-- no sign, a bracket that waits for its comma -/
theorem y_B_noCom {c : Nat} {W' : List Nat} (hc : c = 21 ∨ c = 22) (hw : z_wt n T) (hm : z_mb T n b) (h : z_RF T n b a N) (s0 : ¬ z_sg T n b 44) (s1 : ¬ z_sg T n b 42) (s2 : ¬ z_sg T n b 47) (s3 : ¬ z_sg T n b 43) (s4 : ¬ z_sg T n b 45) (hM : y_M B o (Q ++ c :: W') K N) (hQ : ∀ x, x ∈ Q → y_su x) (hB : B ≤ W'.length) (hl : Q.length + W'.length + K.length < 1690) :
    ∃ N', (∀ g f, y_B (g + 1) (f + 1) N = some N') ∧ z_MF 1 (z_sk T n b) N' ∧ y_cb N' ∧ y_X N N' := by
  have br : ∀ N', y_M B o (Q ++ c :: W') K N' → f_Mo_qBracket 366 N' = some (nI c) := fun N' hM' => m_br1 (y := c) rfl (by unfold y_br; omega) hB (fun x hx => y_nbr (hQ x hx)) hM' (by rw [List.length_cons]; omega)
  obtain ⟨N1, e1, r1, x1⟩ := y_B_go hw hm h hM (Or.inr ⟨nI c, by rcases hc with rfl | rfl <;> decide, br⟩)
  have com : ∀ q, z_RF T n b (z_sk T n b) q → z_ok (y_com q) (fun r => r.1 = 0 ∧ z_MF 1 (z_sk T n b) r.2 ∧ z_LX q r.2) := fun q rq => by
    unfold y_com
    refine z_bind (m_asksS (c := 44) hw hm rq (by unfold z_al; omega) (by decide)) (fun r k => ?_)
    rcases k.2 with ⟨s, _⟩ | ⟨_, mf⟩
    · exact absurd s s0
    · rw [if_neg (mf.bad (by decide) (by decide))]
      exact z_some ⟨rfl, mf, k.1⟩
  obtain ⟨⟨v, N2⟩, e2, v2, r2, x2⟩ := y_GR_s (Q := fun r => r.1 = 0 ∧ z_MF 1 (z_sk T n b) r.2 ∧ z_LX N1 r.2) hw hm r1
    (fun d hd sd q _ _ => by rcases hd with rfl | rfl <;> contradiction)
    (fun d hd sd q _ _ => by rcases hd with rfl | rfl <;> contradiction)
    (fun _ _ _ _ q rq xq => by
      unfold y_no1
      rw [br q ((hM.lx x1).lx xq)]
      simp only [Option.bind_some]
      have cm := z_mono (com q rq) (fun r k => (⟨k.1, k.2.1, xq.tr k.2.2⟩ : r.1 = 0 ∧ z_MF 1 (z_sk T n b) r.2 ∧ z_LX N1 r.2))
      rcases hc with rfl | rfl
      · rw [if_pos (by decide)]; exact cm
      · rw [if_neg (by decide), if_pos (by decide)]; exact cm)
  have v2 : v = 0 := v2
  refine ⟨N2, fun g f => ?_, r2, ((hM.cb (by omega)).lx x1).lx x2, x1.yx.tr x2.yx⟩
  rw [e1, e2, v2]
  exact y_S0 (f := f)
theorem y_B_com {c : Nat} {W' : List Nat} (hc : c = 21 ∨ c = 22) (hw : z_wt n T) (hm : z_mb T n b) (h : z_RF T n b a N) (s0 : z_sg T n b 44) (hM : y_M B o (Q ++ c :: W') K N) (hQ : ∀ x, x ∈ Q → y_su x) (hB : B ≤ W'.length) (hl : Q.length + W'.length + K.length < 1699) :
    ∃ N', (∀ g f, y_B (g + 1) (f + 1) N = y_A jfuel f N') ∧ z_RF T n (z_en T n b) (z_en T n b) N' ∧ y_M B o ((c + 2) :: W') (Q.reverse ++ K) N' ∧ y_X N N' := by
  have br : ∀ N', y_M B o (Q ++ c :: W') K N' → f_Mo_qBracket 366 N' = some (nI c) := fun N' hM' => m_br1 (y := c) rfl (by unfold y_br; omega) hB (fun x hx => y_nbr (hQ x hx)) hM' (by rw [List.length_cons]; omega)
  obtain ⟨N1, e1, r1, x1⟩ := y_B_go hw hm h hM (Or.inr ⟨nI c, by rcases hc with rfl | rfl <;> decide, br⟩)
  have com : ∀ q, z_RF T n b (z_sk T n b) q → y_M B o (Q ++ c :: W') K q → z_ok (y_com q) (fun r => r.1 = 1 ∧ z_RF T n (z_en T n b) (z_en T n b) r.2 ∧ y_M B o ((c + 2) :: W') (Q.reverse ++ K) r.2 ∧ y_X q r.2) := fun q rq mq => by
    unfold y_com
    refine z_bind (m_asksS (c := 44) hw hm rq (by unfold z_al; omega) (by decide)) (fun r k => ?_)
    rcases k.2 with ⟨_, rr⟩ | ⟨s, _⟩
    · rw [if_pos rr.2.2.2.2.2.1]
      unfold f_Mo_qDropsToBracket
      rw [y_ob]
      refine z_bind (m_toBr ⟨c, W', rfl, by unfold y_br; omega, hB⟩ (fun x hx => y_nbr (hQ x hx)) (mq.lx k.1) rr.2.2.2.2.2.1 (by rw [List.length_cons]; omega) (by rw [z_jf]; omega)) (fun s hs => ?_)
      rw [jm_90, m_top hs.1 (by omega)]
      simp only [Option.bind_some]
      obtain ⟨N3, e3, m3, y3⟩ := m_swap (y := c + 2) hs.1 (by omega) (by omega)
      rw [show (nI c + 2 : Int32) = nI (c + 2) from z_add c 2, e3]
      exact z_some ⟨rfl, (rr.y hs.2).y y3, m3, k.1.yx.tr (hs.2.tr y3).yx⟩
    · exact absurd s0 s
  obtain ⟨⟨v, N2⟩, e2, v2, r2, m2, x2⟩ := y_GR_s (Q := fun r => r.1 = 1 ∧ z_RF T n (z_en T n b) (z_en T n b) r.2 ∧ y_M B o ((c + 2) :: W') (Q.reverse ++ K) r.2 ∧ y_X N1 r.2) hw hm r1
    (fun d hd sd q _ _ => by have := y_sg1 s0 sd; omega)
    (fun d hd sd q _ _ => by have := y_sg1 s0 sd; omega)
    (fun _ _ _ _ q rq xq => by
      unfold y_no1
      rw [br q ((hM.lx x1).lx xq)]
      simp only [Option.bind_some]
      have cm := z_mono (com q rq ((hM.lx x1).lx xq)) (fun r k => (⟨k.1, k.2.1, k.2.2.1, xq.yx.tr k.2.2.2⟩ : r.1 = 1 ∧ z_RF T n (z_en T n b) (z_en T n b) r.2 ∧ y_M B o ((c + 2) :: W') (Q.reverse ++ K) r.2 ∧ y_X N1 r.2))
      rcases hc with rfl | rfl
      · rw [if_pos (by decide)]; exact cm
      · rw [if_neg (by decide), if_pos (by decide)]; exact cm)
  have v2 : v = 1 := v2
  refine ⟨N2, fun g f => ?_, r2, m2, x1.yx.tr x2⟩
  rw [e1, e2, v2]
  exact y_A0 r2.2.2.2.2.2.1
/-- a bracket is closed -/
def y_cc (c : Nat) : List Nat := if c = 20 then [] else if c = 23 then [5] else [6]
theorem y_B_close {c : Nat} (hc : c = 20 ∨ c = 23 ∨ c = 24) (hw : z_wt n T) (hm : z_mb T n b) (h : z_RF T n b a N) (s0 : z_sg T n b 41) (hM : y_M B (o + Lk.length + 1) (Q ++ c :: (Lk ++ W0)) K N) (hQ : ∀ x, x ∈ Q → y_su x) (hL : ∀ x, x ∈ Lk → 60 ≤ x) (hB : y_tp B W0) (hl : Q.length + Lk.length + W0.length + K.length < 1699) :
    ∃ N', (∀ g f, y_B (g + 1) f N = y_B g f N') ∧ z_RF T n (z_en T n b) (z_en T n b) N' ∧ y_M B o W0 (Lk.reverse ++ (y_cc c ++ (Q.reverse ++ K))) N' ∧ y_X N N' := by
  have hB' : B ≤ W0.length := by rcases hB with q | q <;> omega
  have hBl : B ≤ (Lk ++ W0).length := by rw [List.length_append]; omega
  have br : ∀ N', y_M B (o + Lk.length + 1) (Q ++ c :: (Lk ++ W0)) K N' → f_Mo_qBracket 366 N' = some (nI c) := fun N' hM' => m_br1 (y := c) rfl (by unfold y_br; omega) hBl (fun x hx => y_nbr (hQ x hx)) hM' (by rw [List.length_cons, List.length_append]; omega)
  obtain ⟨⟨v, N1⟩, e1, v1, r1, x1⟩ := m_look hw hm.1 h
  have v1 : v = _ := v1
  have v41 : v = 41 := v1.trans ((m_lkS hw hm.1 (c := 41) (by unfold z_al; omega) (by decide)).mpr s0)
  have h3 := z_en_3 s0.1
  obtain ⟨N2, en, r2, m2, x2⟩ : ∃ N2, y_cl0 N1 = some N2 ∧ z_RF T n (z_en T n b) (z_en T n b) N2 ∧ y_M B o W0 (Lk.reverse ++ (y_cc c ++ (Q.reverse ++ K))) N2 ∧ y_X N1 N2 := by
    unfold y_cl0 f_Mo_qDropsToBracket
    have ra : z_RF T n (z_en T n b) (z_en T n b) (sI N1 366 2 (nI (z_sk T n b + 1))) := z_RF.sg (c := 0) hm r1 s0.1
    rw [y_ob, r1.1, nI_1]
    obtain ⟨N3, e3, m3, y3⟩ := m_toBr (m := jfuel) ⟨c, Lk ++ W0, rfl, by unfold y_br; omega, hBl⟩ (fun x hx => y_nbr (hQ x hx)) ((hM.lx x1).at (v := nI (z_sk T n b + 1))) ra.2.2.2.2.2.1 (by rw [List.length_cons, List.length_append]; omega) (by rw [z_jf]; omega)
    rw [e3]
    simp only [Option.bind_some]
    obtain ⟨p1, p2, p3, p4⟩ := m3.pop
    have hl1 : (Lk ++ W0).length < 1700 := by rw [List.length_append]; omega
    generalize hN4 : sI (sI N3 366 91 ((N3.1 366 91) - 1)) 366 92 (((sI N3 366 91 ((N3.1 366 91) - 1)).1 366 92) - 1) = N4
    have m4 : y_M B (o + Lk.length) (Lk ++ W0) (Q.reverse ++ K) N4 := by rw [← hN4]; exact p1.oo
    have y4 : y_Y N3 N4 := by rw [← hN4]; exact (y_Y.rf.s (by decide)).s (by decide)
    have t4 : aI N4 (jpf 366 90) (N4.1 366 91) = some (nI c) := by
      rw [jm_90, m4.1, zi_427 _ hl1, ← hN4, z_sIa _ _ _ _ (by decide), z_sIa _ _ _ _ (by decide), p3]
    rw [t4]
    simp only [Option.bind_some]
    have r4 := (ra.y y3).y y4
    obtain ⟨N5, e5, m5, y5⟩ : ∃ N5, (if nI c = 20 then (some N4) else ((if nI c = 23 then (some 5) else (some 6) : Option (Int32)).bind fun q11 => (f_Mo_qCode 366 q11 N4).bind fun q13 => some q13) : Option SM) = some N5 ∧ y_M B (o + Lk.length) (Lk ++ W0) (y_cc c ++ (Q.reverse ++ K)) N5 ∧ y_Y N4 N5 := by
      have lk : (Q.reverse ++ K).length < 1700 := by rw [List.length_append, List.length_reverse]; omega
      rcases hc with rfl | rfl | rfl
      · exact ⟨N4, rfl, m4, y_Y.rf⟩
      · rw [if_neg (by decide), if_pos (by decide)]
        obtain ⟨N5, e5, m5, y5⟩ := m_code (x := 5) m4 lk (by decide)
        exact ⟨N5, by simp only [Option.bind_some]; rw [zl_5, e5]; rfl, m5, y5⟩
      · rw [if_neg (by decide), if_neg (by decide)]
        obtain ⟨N5, e5, m5, y5⟩ := m_code (x := 6) m4 lk (by decide)
        exact ⟨N5, by simp only [Option.bind_some]; rw [zl_6, e5]; rfl, m5, y5⟩
    rw [e5]
    simp only [Option.bind_some]
    unfold f_Mo_qEndsPart
    have r5 := r4.y y5
    have cl : (y_cc c).length ≤ 1 := by unfold y_cc; split <;> (try split) <;> decide
    obtain ⟨N6, e6, m6, y6⟩ := m_ends (m := jfuel) hB hL m5 r5.2.2.2.2.2.1 (by simp only [List.length_append, List.length_reverse]; omega) (by rw [z_jf]; omega)
    rw [y_ob, e6]
    exact ⟨N6, rfl, r5.y y6, m6, (y_X.rf.s (Or.inl rfl)).tr ((((y3.tr y4).tr y5).tr y6).yx)⟩
  refine ⟨N2, fun g f => ?_, r2, m2, x1.yx.tr x2⟩
  unfold y_B
  rw [y_lpg h.2.2.2.2.2.1, e1]
  simp only [Option.bind_some]
  rw [if_pos v41, br N1 (hM.lx x1)]
  simp only [Option.bind_some]
  rcases hc with rfl | rfl | rfl
  · rw [if_pos (by decide), y_cl_e, en]; rfl
  · rw [if_neg (by decide), if_pos (by decide), y_cl_e, en]; rfl
  · rw [if_neg (by decide), if_neg (by decide), if_pos (by decide), y_cl_e, en]; rfl
end
