/-! ===== pure: what codes tell, the reference ===== -/
def y_pi : List Int32 → SM → Prop
  | [], _ => True
  | x :: st, N => N.2 428 st.length = x.toInt64 ∧ y_pi st N
def y_pl (st : List Int32) (N : SM) : Prop := N.1 366 95 = nI st.length ∧ y_pi st N
def y_Z (N N' : SM) : Prop := (∀ i, i ≠ 366 → N'.1 i = N.1 i) ∧ (∀ k, k ≠ 95 → N'.1 366 k = N.1 366 k) ∧ ∀ i, i ≠ 428 → N'.2 i = N.2 i
section
variable {A : ZA} {nm : Nat → Nat → Nat} {P : ZP} {N N' N'' : SM} {i c : Nat} {st st' : List Int32} {x y : Int32}
theorem y_Z.rf : y_Z N N := ⟨fun _ _ => rfl, fun _ _ => rfl, fun _ _ => rfl⟩
theorem y_Z.tr (h : y_Z N N') (k : y_Z N' N'') : y_Z N N'' := ⟨fun i a => (k.1 i a).trans (h.1 i a), fun i a => (k.2.1 i a).trans (h.2.1 i a), fun i a => (k.2.2 i a).trans (h.2.2 i a)⟩
theorem y_Z.s {v : Int32} (h : y_Z N N') : y_Z N (sI N' 366 95 v) := ⟨fun i a => by rw [z_sIa _ _ _ _ a]; exact h.1 i a, fun k a => by rw [z_sIk _ _ _ _ a]; exact h.2.1 k a, h.2.2⟩
theorem y_Z.l {k : Nat} {v : Int64} (h : y_Z N N') : y_Z N (sL N' 428 k v) := ⟨h.1, h.2.1, fun i a => by
  rw [← h.2.2 i a]; funext j; exact (z_sL _ _ _ _ _ _).trans (if_neg a)⟩
theorem y_pi.fr : ∀ {st : List Int32}, y_pi st N → (∀ j, j < st.length → N'.2 428 j = N.2 428 j) → y_pi st N'
  | [], _, _ => trivial
  | x :: st, h, k => ⟨(k st.length (by rw [List.length_cons]; omega)).trans h.1, y_pi.fr h.2 (fun j hj => k j (by rw [List.length_cons]; omega))⟩
theorem y_pi.push (h : y_pi st N) : y_pi (x :: st) (sL N 428 st.length x.toInt64) :=
  ⟨(z_sL _ _ _ _ _ _).trans (by rw [if_pos rfl, if_pos rfl]), h.fr (fun j hj => (z_sL _ _ _ _ _ _).trans (by rw [if_pos rfl, if_neg (by omega)]))⟩
theorem m_puts (h : y_pl st N) (hl : st.length < 1700) : z_ok (f_Mo_qPuts 366 x.toInt64 N) (fun N' => y_pl (x :: st) N' ∧ y_Z N N') := by
  unfold f_Mo_qPuts
  rw [jm_94, h.1, zs_428 _ hl]
  refine z_some ⟨⟨?_, ?_⟩, y_Z.rf.l.s⟩
  · rw [z_sIs]
    show N.1 366 95 + 1 = _
    rw [h.1, nI_1]; rfl
  · exact (h.2.push (x := x)).fr (fun _ _ => rfl)
theorem y_pl.top (h : y_pl (x :: st) N) (hl : st.length < 1700) : aL N 428 (N.1 366 95 - 1) = some x.toInt64 ∧ N.1 366 95 - 1 = nI st.length := by
  have e : N.1 366 95 - 1 = nI st.length := by rw [h.1, List.length_cons, z_ls (by omega)]; rfl
  exact ⟨by rw [e, zi_428 _ hl, h.2.1], e⟩
theorem y_pl.set (h : y_pl (x :: st) N) : y_pl (y :: st) (sL N 428 st.length y.toInt64) :=
  ⟨h.1, (h.2.2.push (x := y))⟩
theorem y_pl.pop2 (h : y_pl (x :: y :: st) N) (hl : st.length < 1690) : aL N 428 (N.1 366 95 - 2) = some y.toInt64 ∧ y_pl st (sI N 366 95 (N.1 366 95 - 2)) := by
  have e : N.1 366 95 - 2 = nI st.length := by rw [h.1, zl_2, z_sub (by rw [List.length_cons, List.length_cons]; omega)]; rfl
  exact ⟨by rw [e, zi_428 _ (by omega), h.2.2.1], ⟨by rw [z_sIs]; exact e, h.2.2.2.fr (fun _ _ => rfl)⟩⟩
theorem y_clip (h : y_bn x) : f_Mo_qClip x.toInt64 = some x.toInt64 := by
  obtain ⟨h1, h2⟩ := h
  unfold f_Mo_qClip
  rw [if_neg, if_neg]
  · intro e
    rw [Int64.lt_iff_toInt_lt, Int32.toInt_toInt64] at e
    have : (-1000000 : Int64).toInt = -1000000 := by decide
    omega
  · intro e
    rw [Int64.lt_iff_toInt_lt, Int32.toInt_toInt64] at e
    have : (1000000 : Int64).toInt = 1000000 := by decide
    omega
theorem m_joins (h1 : 1 ≤ c) (h11 : c ≤ 11) (a b : Int32) (hA : aL N 428 (N.1 366 95 - 1) = some b.toInt64) (hB : aL N 428 (N.1 366 95 - 2) = some a.toInt64) : f_Mo_qJoins 366 (nI c) N = (y_ro c a.toInt64 b.toInt64).bind fun v => f_Mo_qPuts 366 v (sI N 366 95 (N.1 366 95 - 2)) := by
  unfold f_Mo_qJoins
  rw [jm_94, hA, hB]
  simp only [Option.bind_some, y_ob]
  have : c = 1 ∨ c = 2 ∨ c = 3 ∨ c = 4 ∨ c = 5 ∨ c = 6 ∨ c = 7 ∨ c = 8 ∨ c = 9 ∨ c = 10 ∨ c = 11 := by omega
  rcases this with rfl | rfl | rfl | rfl | rfl | rfl | rfl | rfl | rfl | rfl | rfl
  · rw [if_pos (by decide), y_r1]
  · rw [if_neg (by decide), if_pos (by decide), y_r2]
  · rw [if_neg (by decide), if_neg (by decide), if_pos (by decide), y_r3]
  · rw [if_neg (by decide), if_neg (by decide), if_neg (by decide), if_pos (by decide), y_r4]
  · rw [if_neg (by decide), if_neg (by decide), if_neg (by decide), if_neg (by decide), if_pos (by decide), y_r5]
  · rw [if_neg (by decide), if_neg (by decide), if_neg (by decide), if_neg (by decide), if_neg (by decide), if_pos (by decide), y_r6]
  · rw [if_neg (by decide), if_neg (by decide), if_neg (by decide), if_neg (by decide), if_neg (by decide), if_neg (by decide), if_pos (by decide), y_r7]
  · rw [if_neg (by decide), if_neg (by decide), if_neg (by decide), if_neg (by decide), if_neg (by decide), if_neg (by decide), if_neg (by decide), if_pos (by decide), y_r8]
  · rw [if_neg (by decide), if_neg (by decide), if_neg (by decide), if_neg (by decide), if_neg (by decide), if_neg (by decide), if_neg (by decide), if_neg (by decide), if_pos (by decide), y_r9]
  · rw [if_neg (by decide), if_neg (by decide), if_neg (by decide), if_neg (by decide), if_neg (by decide), if_neg (by decide), if_neg (by decide), if_neg (by decide), if_neg (by decide), if_pos (by decide), y_r10]; rfl
  · rw [if_neg (by decide), if_neg (by decide), if_neg (by decide), if_neg (by decide), if_neg (by decide), if_neg (by decide), if_neg (by decide), if_neg (by decide), if_neg (by decide), if_neg (by decide), y_r11]
def y_cd (c i : Nat) (M : SM) : Option SM := if nI c < 1000 then (if nI c < 60 then (if nI c < 40 then (if nI c = 13 then ((f_Mo_qPuts 366 1 M).bind fun q8 => some q8) else (if nI c = 12 then ((aL M (jpf 366 94) ((M.1 366 95) - 1)).bind fun v10 => (aSL M (jpf 366 94) ((M.1 366 95) - 1) (1 - v10)).bind fun M11 => some M11) else ((f_Mo_qJoins 366 (nI c) M).bind fun q12 => some q12))) else ((f_Mo_qPartOf 366 ((nI c) - 40) (nI i) M).bind fun q13 => (f_Mo_qClip q13).bind fun q14 => (f_Mo_qPuts 366 q14 M).bind fun q15 => some q15)) else ((aL M (jpf 366 94) ((M.1 366 95) - 1)).bind fun v16 => (f_Mo_qOf 366 ((nI c) - 60) v16 (nI i) M).bind fun q17 => (f_Mo_qClip q17).bind fun q18 => (aSL M (jpf 366 94) ((M.1 366 95) - 1) q18).bind fun M19 => some M19)) else ((f_Mo_qPuts 366 (Int32.toInt64 ((nI c) - 1000)) M).bind fun q20 => some q20)
theorem m_partOf {w : Nat} (hW : z_WB A nm P) (h00 : 0 < A 0 0) (hM : z_MB A nm P N) (hw : w < 6) (hi : i < 61) : f_Mo_qPartOf 366 (nI w) (nI i) N = some (y_part (r_v A (z_pa P)) w i).toInt64 := by
  have hR := hM.2.2.1 h00
  unfold f_Mo_qPartOf y_part
  rw [jm_61, show (6 : Int32) * nI i = nI (6 * i) from z_mul 6 i, show nI (6 * i) + 1 = nI (6 * i + 1) from z_add _ 1, show nI (6 * i) + 2 = nI (6 * i + 2) from z_add _ 2, show nI (6 * i) + 3 = nI (6 * i + 3) from z_add _ 3, show nI (6 * i) + 5 = nI (6 * i + 5) from z_add _ 5]
  have g : ∀ k, k < 4 → N.1 403 (6 * i + k) = nI ((r_v A (z_pa P) i).2.2 k) := (hR i (by omega)).2.2.1
  have : w = 0 ∨ w = 1 ∨ w = 2 ∨ w = 3 ∨ w = 4 ∨ w = 5 := by omega
  rcases this with rfl | rfl | rfl | rfl | rfl | rfl
  · rw [if_pos (by decide)]; rfl
  · rw [if_neg (by decide), if_pos (by decide), zi_403 _ (by omega), show 6 * i = 6 * i + 0 from rfl, g 0 (by decide)]; rfl
  · rw [if_neg (by decide), if_neg (by decide), if_pos (by decide), zi_403 _ (by omega), g 1 (by decide)]; rfl
  · rw [if_neg (by decide), if_neg (by decide), if_neg (by decide), if_pos (by decide), zi_403 _ (by omega), g 2 (by decide)]; rfl
  · rw [if_neg (by decide), if_neg (by decide), if_neg (by decide), if_neg (by decide), if_pos (by decide), zi_403 _ (by omega), g 3 (by decide)]; rfl
  · rw [if_neg (by decide), if_neg (by decide), if_neg (by decide), if_neg (by decide), if_neg (by decide), if_neg (show ¬ 5 = 0 by decide), if_pos (show 5 = 5 from rfl)]
    by_cases i0 : i = 0
    · subst i0; rw [if_pos (by decide), if_pos rfl]; rfl
    · rw [if_neg (fun (e : nI i = 0) => i0 ((nI_eq (b := 0) (by omega) (by decide)).mp e)), if_neg i0, zi_403 _ (by omega), z_ls (by omega), zi_403 _ (by omega), (hR i (by omega)).2.2.2.2]
      have := (hR (i - 1) (by omega)).2.2.2.2
      rw [show 6 * (i - 1) + 5 = 6 * i - 1 by omega] at this
      rw [this]
      simp only [Option.bind_some]
      obtain ⟨j, rfl⟩ : ∃ j, i = j + 1 := ⟨i - 1, by omega⟩
      rw [z_sub (show (r_v A (z_pa P) (j + 1 - 1)).2.2 4 ≤ (r_v A (z_pa P) (j + 1)).2.2 4 from Nat.le_add_right _ _)]
theorem m_of {w : Nat} (hW : z_WB A nm P) (hM : z_MB A nm P N) (hw : w < 2) (hi : i < 61) : f_Mo_qOf 366 (nI w) x.toInt64 (nI i) N = some (y_look A (r_v A (z_pa P)) w x i).toInt64 := by
  have h1 := hW.1.1
  have h2 := hW.1.2.2.2.1
  have O := hM.1
  unfold f_Mo_qOf y_look
  rw [jm_28, jm_59, jm_60, O.1, show (12 : Int32) * nI i = nI (12 * i) from z_mul 12 i, show (4 : Int32) * nI i = nI (4 * i) from z_mul 4 i, zl_6, zi_385 _ (by decide), O.2.2.2.2.2.1]
  simp only [Option.bind_some]
  have : w = 0 ∨ w = 1 := by omega
  rcases this with rfl | rfl
  · rw [if_pos (by decide), if_pos rfl, z_isN x (by omega)]
    simp only [Option.bind_some]
    by_cases q : z_q x (A 0 0)
    · rw [z_b1 q, if_pos q]
      obtain ⟨c, hc, rfl⟩ := z_q_of (by omega) q
      rw [Int32.toInt32_toInt64, z_add, m_deepA hW hM hc hi, z_ci (by omega)]; rfl
    · rw [z_b0 q, if_neg q]; rfl
  · rw [if_neg (by decide), if_neg (by decide), z_isN x (by omega)]
    simp only [Option.bind_some]
    by_cases q : z_q x (A 0 5)
    · rw [z_b1 q, if_pos q]
      obtain ⟨c, hc, rfl⟩ := z_q_of (by omega) q
      rw [Int32.toInt32_toInt64, z_add, m_boatI hW hM hc hi, z_ci (by omega)]; rfl
    · rw [z_b0 q, if_neg q]; rfl
theorem m_cd (hW : z_WB A nm P) (h00 : 0 < A 0 0) (hM : z_MB A nm P N) (hi : i < 61) (hp : y_pl st N) (hl : st.length < 1690) (hc : c < 20000) (e : y_ex A (r_v A (z_pa P)) i c st = some st') : z_ok (y_cd c i N) (fun N' => y_pl st' N' ∧ y_Z N N') := by
  unfold y_ex at e
  unfold y_cd
  rw [jm_94, y_ob, y_ob, y_ob]
  by_cases c1 : 1000 ≤ c
  · rw [if_pos c1] at e
    rw [if_neg (show ¬ nI c < 1000 from nI_nlt (b := 1000) c1 (by omega))]
    by_cases c2 : c ≤ 10999
    · rw [if_pos c2] at e
      obtain rfl := Option.some.inj e
      rw [zl_1000, z_sub c1]
      exact m_puts hp (by omega)
    · rw [if_neg c2] at e; cases e
  · rw [if_neg c1] at e
    rw [if_pos (show nI c < 1000 from nI_lt (b := 1000) (by omega) (by decide))]
    by_cases c2 : 60 ≤ c
    · rw [if_pos c2] at e
      rw [if_neg (show ¬ nI c < 60 from nI_nlt (b := 60) c2 (by omega))]
      cases st with
      | nil => cases e
      | cons x st =>
        rw [List.length_cons] at hl
        have e : (if c < 62 then some (y_look A (r_v A (z_pa P)) (c - 60) x i :: st) else none) = some st' := e
        by_cases c3 : c < 62
        · rw [if_pos c3] at e
          obtain rfl := Option.some.inj e
          obtain ⟨t1, t2⟩ := hp.top (by omega)
          rw [t1]
          simp only [Option.bind_some]
          rw [zl_60, z_sub c2, m_of hW hM (w := c - 60) (by omega) hi]
          simp only [Option.bind_some]
          rw [y_clip (y_blook hW), t2]
          simp only [Option.bind_some]
          rw [zs_428 _ (by omega)]
          exact z_some ⟨hp.set, y_Z.rf.l⟩
        · rw [if_neg c3] at e; cases e
    · rw [if_neg c2] at e
      rw [if_pos (show nI c < 60 from nI_lt (b := 60) (by omega) (by decide))]
      by_cases c3 : 40 ≤ c
      · rw [if_pos c3] at e
        rw [if_neg (show ¬ nI c < 40 from nI_nlt (b := 40) c3 (by omega))]
        by_cases c4 : c < 46
        · rw [if_pos c4] at e
          obtain rfl := Option.some.inj e
          rw [show (40 : Int32) = nI 40 from rfl, z_sub c3, m_partOf hW h00 hM (w := c - 40) (by omega) hi]
          simp only [Option.bind_some]
          rw [y_clip (y_bpart hW h00 hi)]
          simp only [Option.bind_some]
          rw [y_ob]
          exact m_puts hp (by omega)
        · rw [if_neg c4] at e; cases e
      · rw [if_neg c3] at e
        rw [if_pos (show nI c < 40 from nI_lt (b := 40) (by omega) (by decide))]
        by_cases c13 : c = 13
        · subst c13
          rw [if_pos rfl] at e
          obtain rfl := Option.some.inj e
          rw [if_pos (by decide)]
          exact m_puts (x := 1) hp (by omega)
        · rw [if_neg c13] at e
          rw [if_neg (fun (q : nI c = 13) => c13 ((nI_eq (b := 13) (by omega) (by decide)).mp q))]
          by_cases c12 : c = 12
          · subst c12
            rw [if_pos rfl] at e
            rw [if_pos (by decide)]
            cases st with
            | nil => cases e
            | cons x st =>
              rw [List.length_cons] at hl
              have e : (if x = 0 ∨ x = 1 then some ((if x = 0 then (1 : Int32) else 0) :: st) else none) = some st' := e
              by_cases h01 : x = 0 ∨ x = 1
              · rw [if_pos h01] at e
                obtain rfl := Option.some.inj e
                obtain ⟨t1, t2⟩ := hp.top (by omega)
                rw [t1, t2]
                simp only [Option.bind_some]
                have : (1 - x.toInt64 : Int64) = (if x = 0 then (1 : Int32) else 0).toInt64 := by
                  rcases h01 with rfl | rfl <;> decide
                rw [this, zs_428 _ (by omega)]
                exact z_some ⟨hp.set, y_Z.rf.l⟩
              · rw [if_neg h01] at e; cases e
          · rw [if_neg c12] at e
            rw [if_neg (fun (q : nI c = 12) => c12 ((nI_eq (b := 12) (by omega) (by decide)).mp q))]
            match st, e, hp, hl with
            | [], e, _, _ => cases e
            | [_], e, _, _ => cases e
            | b :: a :: st, e, hp, hl =>
              rw [List.length_cons, List.length_cons] at hl
              have e : (if (c = 10 ∨ c = 11) ∧ (a = 0 ∨ a = 1) ∧ (b = 0 ∨ b = 1) ∨ (1 ≤ c ∧ c ≤ 9) ∧ (-1000000 ≤ a.toInt ∧ a.toInt ≤ 1000000) ∧ (-1000000 ≤ b.toInt ∧ b.toInt ≤ 1000000) then some (y_j c a b :: st) else none) = some st' := e
              by_cases hh : (c = 10 ∨ c = 11) ∧ (a = 0 ∨ a = 1) ∧ (b = 0 ∨ b = 1) ∨ (1 ≤ c ∧ c ≤ 9) ∧ (-1000000 ≤ a.toInt ∧ a.toInt ≤ 1000000) ∧ (-1000000 ≤ b.toInt ∧ b.toInt ≤ 1000000)
              · rw [if_pos hh] at e
                obtain rfl := Option.some.inj e
                have js := y_j_s (c := c) (a := a) (b := b) hh
                obtain ⟨t1, t2⟩ := hp.top (by rw [List.length_cons]; omega)
                obtain ⟨p1, p2⟩ := hp.pop2 (by omega)
                rw [m_joins (by rcases hh with h | h <;> omega) (by rcases hh with h | h <;> omega) a b t1 p1, js.2.1]
                exact z_mono (m_puts p2 (by omega)) (fun N' k => ⟨k.1, y_Z.rf.s.tr k.2⟩)
              · rw [if_neg hh] at e; cases e
theorem y_ev.pre {F : Nat → ZS} : ∀ {Q K : List Nat} {st st'}, y_ev A F i (Q ++ K) st = some st' → ∃ st1, y_ev A F i K st = some st1
  | [], K, st, st', h => ⟨st', h⟩
  | c :: Q, K, st, st', h => by
    have h : (y_ev A F i (Q ++ K) st).bind (y_ex A F i c) = some st' := h
    cases e : y_ev A F i (Q ++ K) st with
    | none => rw [e] at h; cases h
    | some s1 => exact y_ev.pre e
theorem y_ex.len {F : Nat → ZS} (e : y_ex A F i c st = some st') : st'.length ≤ st.length + 1 := by
  unfold y_ex at e
  repeat (first | (split at e) | (obtain rfl := Option.some.inj e; simp only [List.length_cons]; omega) | cases e)
theorem y_ev.len {F : Nat → ZS} : ∀ {K : List Nat} {st st'}, y_ev A F i K st = some st' → st'.length ≤ st.length + K.length
  | [], st, st', h => by obtain rfl := Option.some.inj h; simp
  | c :: K, st, st', h => by
    have h : (y_ev A F i K st).bind (y_ex A F i c) = some st' := h
    cases e : y_ev A F i K st with
    | none => rw [e] at h; cases h
    | some s1 =>
      rw [e] at h
      have h1 := y_ev.len e
      have h2 := y_ex.len (show y_ex A F i c s1 = some st' from h)
      rw [List.length_cons]; omega
theorem z_MB.z (h : z_MB A nm P N) (x : y_Z N N') : z_MB A nm P N' := by
  obtain ⟨h1, h2, h3, h4, h5⟩ := h
  exact ⟨h1.fr (x.2.1 31 (by decide)) (fun i a b c => x.1 i (by omega)), h2.fr (x.1 391 (by decide)), fun q => (h3 q).fr (fun i a b => x.1 i (by omega)), ⟨(x.2.1 47 (by decide)).trans h4.1, (x.2.1 48 (by decide)).trans h4.2.1, (x.2.1 50 (by decide)).trans h4.2.2⟩, fun i w hi hw => by rw [x.2.2 386 (by decide)]; exact h5 i w hi hw⟩
theorem m_told {D : List Nat} {v : Int32} (hW : z_WB A nm P) (h00 : 0 < A 0 0) (hM : z_MB A nm P N) (hi : i < 61) (h89 : N.1 366 89 = nI D.length) (hD : y_st 426 D N) (hl : D.length < 1690) (e : y_ev A (r_v A (z_pa P)) i D [] = some [v]) : z_ok (f_Mo_qTold 366 (nI i) N) (fun r => r.1 = v.toInt64 ∧ y_Z N r.2) := by
  unfold f_Mo_qTold
  have run : z_ok (lp_Mo_qTold_7 366 (nI i) jfuel (nI 0) (sI N 366 95 0)) (fun N' => y_pl [v] N' ∧ y_Z N N') := by
    refine z_loop (fun m c N' => lp_Mo_qTold_7 366 (nI i) m c N') (fun c N' => (∃ Q K st, D = Q ++ K ∧ K.length = c ∧ y_ev A (r_v A (z_pa P)) i K [] = some st ∧ y_pl st N') ∧ y_Z N N') _ D.length ?_ ?_ jfuel 0 _ (Nat.zero_le _) (by rw [z_jf]; omega) ⟨⟨D, [], [], (List.append_nil _).symm, rfl, rfl, ⟨z_sIs _ _ _ _, trivial⟩⟩, y_Z.rf.s⟩
    · intro m c N' hc ⟨⟨Q, K, st, eD, eK, es, hp⟩, hZ⟩ k
      show z_ok (lp_Mo_qTold_7 366 (nI i) (m + 1) (nI c) N') _
      rcases List.eq_nil_or_concat Q with rfl | ⟨Q', x, rfl⟩
      · rw [eD, List.nil_append] at hc; omega
      · rw [List.concat_eq_append, List.append_assoc] at eD
        have eD : D = Q' ++ (x :: K) := eD
        have hx := (y_st.app (Q := Q') (W := x :: K) (by rw [← eD]; exact hD)).1
        rw [eD] at e
        obtain ⟨st2, e2⟩ := y_ev.pre e
        have e2' : y_ex A (r_v A (z_pa P)) i x st = some st2 := by
          have : (y_ev A (r_v A (z_pa P)) i K []).bind (y_ex A (r_v A (z_pa P)) i x) = some st2 := e2
          rw [es] at this; exact this
        have sl := y_ev.len es
        rw [List.length_nil] at sl
        rw [lp_Mo_qTold_7, hZ.2.1 89 (by decide), h89, if_pos (nI_lt hc (by omega)), jm_88, zi_426 _ (by omega), hZ.1 426 (by decide), ← eK, hx.1]
        simp only [Option.bind_some]
        refine z_bind (m_cd hW h00 (hM.z hZ) hi hp (by omega) hx.2 e2') (fun N2 k2 => ?_)
        rw [nI_1, eK]
        exact k N2 ⟨⟨Q', x :: K, st2, eD, by rw [List.length_cons, eK], e2, k2.1⟩, hZ.tr k2.2⟩
    · intro m N' ⟨⟨Q, K, st, eD, eK, es, hp⟩, hZ⟩
      show z_ok (lp_Mo_qTold_7 366 (nI i) (m + 1) (nI D.length) N') _
      rw [lp_Mo_qTold_7, hZ.2.1 89 (by decide), h89, if_neg (nI_nlt (Nat.le_refl _) (by omega))]
      have : Q = [] := by
        have := congrArg List.length eD
        rw [List.length_append, eK] at this
        exact List.length_eq_zero_iff.mp (by omega)
      subst this
      rw [List.nil_append] at eD
      subst eD
      rw [e] at es
      obtain rfl := Option.some.inj es
      exact z_some ⟨hp, hZ⟩
  rw [zl_0]
  refine z_bind run (fun N' k => ?_)
  rw [jm_94, zi_428 _ (by decide)]
  exact z_some ⟨k.1.2.1, k.2⟩
end
