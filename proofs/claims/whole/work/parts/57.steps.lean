/-! ===== pure: steps of both, side by side ===== -/
def z2 {α β : Type} (o : Option α) (o' : Option β) (Q : α → β → Prop) : Prop := ∃ r r', o = some r ∧ o' = some r' ∧ Q r r'
section
variable {α β γ δ : Type}
theorem z2_some {r : α} {r' : β} {Q : α → β → Prop} (h : Q r r') : z2 (some r) (some r') Q := ⟨r, r', rfl, rfl, h⟩
theorem z2_b {o : Option α} {o' : Option β} {f : α → Option γ} {g : β → Option δ} {P : α → β → Prop} {Q : γ → δ → Prop} (h : z2 o o' P) (k : ∀ r r', P r r' → z2 (f r) (g r') Q) : z2 (o.bind f) (o'.bind g) Q := by
  obtain ⟨r, r', e, e', p⟩ := h
  rw [e, e']
  exact k r r' p
theorem z2_l {o : Option α} {f : α → Option γ} {o' : Option δ} {r : α} {Q : γ → δ → Prop} (h : o = some r) (k : z2 (f r) o' Q) : z2 (o.bind f) o' Q := by rw [h]; exact k
theorem z2_r {o : Option α} {f : α → Option γ} {o' : Option δ} {r : α} {Q : δ → γ → Prop} (h : o = some r) (k : z2 o' (f r) Q) : z2 o' (o.bind f) Q := by rw [h]; exact k
theorem z2_mono {o : Option α} {o' : Option β} {P Q : α → β → Prop} (h : z2 o o' P) (k : ∀ r r', P r r' → Q r r') : z2 o o' Q := by
  obtain ⟨r, r', e, e', p⟩ := h
  exact ⟨r, r', e, e', k r r' p⟩
theorem z2_of {o : Option α} {o' : Option β} {P : α → Prop} {P' : β → Prop} (h : z_ok o P) (h' : z_ok o' P') : z2 o o' (fun r r' => P r ∧ P' r') := by
  obtain ⟨r, e, p⟩ := h
  obtain ⟨r', e', p'⟩ := h'
  exact ⟨r, r', e, e', p, p'⟩
theorem z2_lp {c : Prop} [Decidable c] {a b : Option α} {o' : Option β} {Q : α → β → Prop} (h : c) (k : z2 a o' Q) : z2 (if c then a else b) o' Q := by rw [if_pos h]; exact k
theorem z2_ln {c : Prop} [Decidable c] {a b : Option α} {o' : Option β} {Q : α → β → Prop} (h : ¬ c) (k : z2 b o' Q) : z2 (if c then a else b) o' Q := by rw [if_neg h]; exact k
theorem z2_rp {c : Prop} [Decidable c] {a b : Option α} {o' : Option β} {Q : β → α → Prop} (h : c) (k : z2 o' a Q) : z2 o' (if c then a else b) Q := by rw [if_pos h]; exact k
theorem z2_rn {c : Prop} [Decidable c] {a b : Option α} {o' : Option β} {Q : β → α → Prop} (h : ¬ c) (k : z2 o' b Q) : z2 o' (if c then a else b) Q := by rw [if_neg h]; exact k
end
/-- both stand at b -/
def z_BT (T : Nat → Nat) (n b : Nat) (M N : SM) : Prop := z_mb T n b ∧ z_RD T n b M ∧ z_tc n T M ∧ ∃ a, z_RF T n b a N
/-- both have the same FAULT -/
def z_FF (M N : SM) : Prop := ∃ f p, z_CF f p M ∧ 0 < f ∧ f < 100 ∧ z_MF f p N
theorem z_FF.bad {M N : SM} (h : z_FF M N) : N.1 366 5 ≠ 0 := by
  obtain ⟨f, p, h1, h2, h3, h4⟩ := h
  exact h4.bad h2 h3
theorem z_FF.mk1 {M N : SM} {f p : Nat} (h1 : z_CF f p M) (h4 : z_MF f p N) (h2 : 0 < f) (h3 : f < 100) : z_FF M N := ⟨f, p, h1, h2, h3, h4⟩
theorem z_FF.to {M N M' N' : SM} (h : z_FF M N) (k1 : z_SF M M') (k5 : N'.1 366 5 = N.1 366 5) (k6 : N'.1 366 6 = N.1 366 6) : z_FF M' N' := by
  obtain ⟨f, p, h1, h2, h3, h4⟩ := h
  exact ⟨f, p, ⟨k1.1.trans h1.1, k1.2.trans h1.2⟩, h2, h3, ⟨k5.trans h4.1, k6.trans h4.2⟩⟩
theorem z_SF.rf {M : SM} : z_SF M M := ⟨rfl, rfl⟩
theorem z_SF.tr {M M' M'' : SM} (h : z_SF M M') (k : z_SF M' M'') : z_SF M M'' := ⟨k.1.trans h.1, k.2.trans h.2⟩
/-- where the reference stands is a place of the text -/
def z_av (n : Nat) (N : SM) : Prop := N.1 366 3 = nI n ∧ ∃ k, k ≤ n ∧ N.1 366 2 = nI k
theorem z_av.s {n : Nat} {N : SM} {k : Nat} {v : Int32} (h : z_av n N) (h2 : k ≠ 2) (h3 : k ≠ 3) : z_av n (sI N 366 k v) :=
  ⟨(z_sIk _ _ _ _ (fun e => h3 e.symm)).trans h.1, h.2.elim fun j hj => ⟨j, hj.1, (z_sIk _ _ _ _ (fun e => h2 e.symm)).trans hj.2⟩⟩
theorem z_RF.av {T : Nat → Nat} {n b a : Nat} {N : SM} (h : z_RF T n b a N) (hb : b ≤ n) : z_av n N :=
  ⟨h.2.2.2.1, a, Nat.le_trans h.2.2.1 (z_sk_s hb).2.1, h.1⟩
theorem p_fail {n : Nat} {N N' : SM} {x y : Int32} (e : f_Mo_fail 366 x y N = some N') (h : z_av n N) : z_av n N' := by
  unfold f_Mo_fail at e
  split at e
  · cases e; exact (h.s (by decide) (by decide)).s (by decide) (by decide)
  · cases e; exact h
theorem p_49 {n : Nat} (hn : n ≤ 1600) {y : Int32} : ∀ (m : Nat) (x : Int32) (N : SM) (t : (Int32 × SM) ⊕ (Int32 × SM)), z_av n N → lp_Mo_number_49 366 y m x N = some t → (∀ q, t = .inl q → z_av n q.2) ∧ (∀ q, t = .inr q → z_av n q.2)
  | 0, _, _, _, _, e => by cases e
  | m + 1, x, N, t, h, e => by
    obtain ⟨h3, k, hk, h2⟩ := id h
    rw [lp_Mo_number_49] at e
    by_cases c : (N.1 366 2) < (N.1 366 3)
    · rw [if_pos c] at e
      have hkn : k < n := by rw [h2, h3] at c; exact (nI_ltI (by omega) (by omega)).mp c
      rw [h2, jm_0, zi_367 _ (by omega)] at e
      simp only [Option.bind_some] at e
      cases d : f_Mo_isDigit (N.1 367 k) with
      | none => rw [d] at e; cases e
      | some v =>
        rw [d] at e
        simp only [Option.bind_some] at e
        split at e
        · cases e; exact ⟨fun q hq => by cases hq; exact h, fun q hq => by cases hq⟩
        · split at e
          · cases f : f_Mo_fail 366 1 (nI k) N with
            | none => rw [f] at e; cases e
            | some N' => rw [f] at e; cases e; exact ⟨fun q hq => (by cases hq), fun q hq => by cases hq; exact p_fail f h⟩
          · rw [nI_1] at e
            exact p_49 hn m _ _ t ⟨(z_sIk _ _ _ _ (by decide)).trans h3, k + 1, hkn, z_sIs _ _ _ _⟩ e
    · rw [if_neg c] at e
      cases e; exact ⟨fun q hq => by cases hq; exact h, fun q hq => by cases hq⟩
theorem p_58 {n : Nat} (hn : n ≤ 1600) : ∀ (m : Nat) (x : Int64) (N : SM) (t : (Int64 × SM) ⊕ (Int64 × SM)), z_av n N → lp_Mo_name_58 366 m x N = some t → (∀ q, t = .inl q → z_av n q.2) ∧ (∀ q, t = .inr q → z_av n q.2)
  | 0, _, _, _, _, e => by cases e
  | m + 1, x, N, t, h, e => by
    obtain ⟨h3, k, hk, h2⟩ := id h
    rw [lp_Mo_name_58] at e
    by_cases c : (N.1 366 2) < (N.1 366 3)
    · rw [if_pos c] at e
      have hkn : k < n := by rw [h2, h3] at c; exact (nI_ltI (by omega) (by omega)).mp c
      rw [h2, jm_0, zi_367 _ (by omega)] at e
      simp only [Option.bind_some] at e
      cases d : f_Mo_isLetter (N.1 367 k) with
      | none => rw [d] at e; cases e
      | some v =>
        rw [d] at e
        simp only [Option.bind_some] at e
        split at e
        · cases e; exact ⟨fun q hq => by cases hq; exact h, fun q hq => by cases hq⟩
        · split at e
          · cases f : f_Mo_fail 366 1 (nI k) N with
            | none => rw [f] at e; cases e
            | some N' => rw [f] at e; cases e; exact ⟨fun q hq => (by cases hq), fun q hq => by cases hq; exact p_fail f h⟩
          · rw [nI_1] at e
            exact p_58 hn m _ _ t ⟨(z_sIk _ _ _ _ (by decide)).trans h3, k + 1, hkn, z_sIs _ _ _ _⟩ e
    · rw [if_neg c] at e
      cases e; exact ⟨fun q hq => by cases hq; exact h, fun q hq => by cases hq⟩
section
variable {T : Nat → Nat} {n b a : Nat} {N N' : SM}
theorem p_asks (hw : z_wt n T) (hm : z_mb T n b) (h : z_RF T n b a N) {r : Nat} {w : List Nat} (hr : jln r = w.length) (hw12 : w.length ≤ 12) (hch : ∀ i, i < w.length → N.1 r i = nI (w.getD i 0)) (hcb : ∀ i, i < w.length → w.getD i 0 < 256) (hr366 : r ≠ 366) (e : f_Mo_asks 366 r N = some N') : z_av n N' := by
  obtain ⟨q, eq, q1, q2⟩ := m_takes hw hm h hr hw12 hch hcb hr366
  unfold f_Mo_asks at e
  rw [if_pos h.2.2.2.2.2.1, eq] at e
  simp only [Option.bind_some] at e
  rcases q2 with ⟨c, e1, q2⟩ | ⟨c, e1, q2⟩
  · rw [e1, if_neg z_10] at e
    cases e; exact q2.av (z_en_s hm.1).2.1
  · rw [e1, if_pos rfl] at e
    cases f : f_Mo_fail 366 1 (q.2.1 366 2) q.2 with
    | none => rw [f] at e; cases e
    | some N2 => rw [f] at e; cases e; exact p_fail f (q2.av hm.1)
theorem p_num (hw : z_wt n T) (hm : z_mb T n b) (h : z_RF T n b a N) {lo hi : Int32} {r : Int32 × SM} (e : f_Mo_number 366 lo hi N = some r) : z_av n r.2 := by
  obtain ⟨⟨v, Nq⟩, eq, _, rq, _⟩ := m_look hw hm.1 h
  have av : z_av n Nq := z_RF.av rq hm.1
  unfold f_Mo_number at e
  rw [if_pos h.2.2.2.2.2.1, eq] at e
  simp only [Option.bind_some] at e
  cases d : f_Mo_isDigit v with
  | none => rw [d] at e; cases e
  | some u =>
    rw [d] at e
    simp only [Option.bind_some] at e
    split at e
    · cases f : f_Mo_fail 366 1 (Nq.1 366 2) Nq with
      | none => rw [f] at e; cases e
      | some N2 => rw [f] at e; cases e; exact p_fail f av
    · split at e
      · cases f : f_Mo_fail 366 1 (Nq.1 366 2) Nq with
        | none => rw [f] at e; cases e
        | some N2 => rw [f] at e; cases e; exact p_fail f av
      · unfold jsb at e
        cases l : lp_Mo_number_49 366 (Nq.1 366 2) jfuel 0 Nq with
        | none => rw [l] at e; cases e
        | some t =>
          obtain ⟨t1, t2⟩ := p_49 hw.1 _ _ _ _ av l
          rw [l] at e
          simp only [Option.bind_some] at e
          cases t with
          | inr q => cases e; exact t2 q rfl
          | inl q =>
            have a2 := t1 q rfl
            cases g : f_Mo_isIn (Int32.toInt64 q.1) lo.toInt64 hi.toInt64 with
            | none => simp only [g] at e; cases e
            | some u2 =>
              simp only [g, Option.bind_some] at e
              split at e
              · cases f : f_Mo_fail 366 2 (Nq.1 366 2) (sI (sI q.2 366 4 (q.2.1 366 2)) 366 9 (Nq.1 366 2)) with
                | none => rw [f] at e; cases e
                | some N2 => rw [f] at e; cases e; exact p_fail f ((a2.s (by decide) (by decide)).s (by decide) (by decide))
              · cases e; exact (a2.s (by decide) (by decide)).s (by decide) (by decide)
theorem p_name (hw : z_wt n T) (hm : z_mb T n b) (h : z_RF T n b a N) (hK : z_KW N) {r : Int64 × SM} (e : f_Mo_name 366 N = some r) : z_av n r.2 := by
  obtain ⟨⟨v, Nq⟩, eq, _, rq, xq⟩ := m_look hw hm.1 h
  have rq : z_RF T n b (z_sk T n b) Nq := rq
  have xq : z_LX N Nq := xq
  have av : z_av n Nq := rq.av hm.1
  unfold f_Mo_name at e
  rw [if_pos h.2.2.2.2.2.1, eq] at e
  simp only [Option.bind_some] at e
  cases d : f_Mo_isLetter v with
  | none => rw [d] at e; cases e
  | some u =>
    rw [d] at e
    simp only [Option.bind_some] at e
    split at e
    · cases f : f_Mo_fail 366 1 (Nq.1 366 2) Nq with
      | none => rw [f] at e; cases e
      | some N2 => rw [f] at e; cases e; exact p_fail f av
    · split at e
      · cases f : f_Mo_fail 366 1 (Nq.1 366 2) Nq with
        | none => rw [f] at e; cases e
        | some N2 => rw [f] at e; cases e; exact p_fail f av
      · obtain ⟨q, eo, _, ⟨a', ra, _⟩, _⟩ := m_own hw hm rq (hK.lx xq)
        have a1 := ra.av hm.1
        rw [eo] at e
        simp only [Option.bind_some] at e
        split at e
        · unfold jsb at e
          cases l : lp_Mo_name_58 366 jfuel 0 (sI q.2 366 27 (q.2.1 366 2)) with
          | none => rw [l] at e; cases e
          | some t =>
            obtain ⟨t1, t2⟩ := p_58 hw.1 _ _ _ _ (a1.s (by decide) (by decide)) l
            rw [l] at e
            simp only [Option.bind_some] at e
            cases t with
            | inr p => cases e; exact t2 p rfl
            | inl p => cases e; exact (t1 p rfl).s (by decide) (by decide)
        · cases f : f_Mo_fail 366 1 (q.2.1 366 2) q.2 with
          | none => rw [f] at e; cases e
          | some N2 => rw [f] at e; cases e; exact p_fail f a1
theorem p_nn7 {v : Int64} : ∀ (m : Nat) (x : Int32) (N N' : SM), z_av n N → lp_Mo_newName_7 366 v m x N = some N' → z_av n N'
  | 0, _, _, _, _, e => by cases e
  | m + 1, x, N, N', h, e => by
    rw [lp_Mo_newName_7] at e
    split at e
    · cases l : (if (N.1 366 5) = 0 then ((aI N (jpf 366 28) (x / 8)).bind fun v5 => if (x - x / 8 * 8) < v5 then ((aL N (jpf 366 29) x).bind fun v7 => if v7 = v then ((f_Mo_fail 366 3 (N.1 366 27) N).bind fun q9 => some q9) else (some N)) else (some N)) else (some N) : Option (SM)) with
      | none => rw [l] at e; cases e
      | some N1 =>
        rw [l] at e
        refine p_nn7 m _ N1 N' ?_ e
        split at l
        · cases g : aI N (jpf 366 28) (x / 8) with
          | none => rw [g] at l; cases l
          | some v5 =>
            rw [g] at l
            simp only [Option.bind_some] at l
            split at l
            · cases g2 : aL N (jpf 366 29) x with
              | none => rw [g2] at l; cases l
              | some v7 =>
                rw [g2] at l
                simp only [Option.bind_some] at l
                split at l
                · cases f : f_Mo_fail 366 3 (N.1 366 27) N with
                  | none => rw [f] at l; cases l
                  | some N2 => rw [f] at l; cases l; exact p_fail f h
                · cases l; exact h
            · cases l; exact h
        · cases l; exact h
    · cases e; exact h
theorem p_newName (hw : z_wt n T) (hm : z_mb T n b) (h : z_RF T n b a N) (hK : z_KW N) {r : Int64 × SM} (e : f_Mo_newName 366 N = some r) : z_av n r.2 := by
  unfold f_Mo_newName at e
  cases g : f_Mo_name 366 N with
  | none => rw [g] at e; cases e
  | some q =>
    have a1 := p_name hw hm h hK g
    rw [g] at e
    simp only [Option.bind_some] at e
    cases l : lp_Mo_newName_7 366 q.1 jfuel 0 q.2 with
    | none => rw [l] at e; cases e
    | some N2 => rw [l] at e; cases e; exact p_nn7 _ _ _ _ a1 l
/-- looking, with a FAULT -/
theorem b_look (hn : n ≤ 1600) (h : z_av n N) : z_ok (f_Mo_look 366 N) (fun r => z_av n r.2 ∧ z_LX N r.2 ∧ r.2.1 366 5 = N.1 366 5 ∧ r.2.1 366 6 = N.1 366 6) := by
  have loop : ∀ j (N1 : SM) k, N1.1 366 2 = nI k → N1.1 366 3 = nI n → k + j = n → ∃ N2, (∀ m, j < m → lp_Mo_look_0 366 m N1 = some N2) ∧ z_av n N2 ∧ z_LX N1 N2 ∧ N2.1 366 5 = N1.1 366 5 ∧ N2.1 366 6 = N1.1 366 6 := by
    intro j
    induction j with
    | zero =>
      intro N1 k h2 h3 hk
      refine ⟨N1, fun m hm => ?_, ⟨h3, k, by omega, h2⟩, z_LX.rf, rfl, rfl⟩
      obtain ⟨m, rfl⟩ : ∃ m', m = m' + 1 := ⟨m - 1, by omega⟩
      rw [lp_Mo_look_0, h2, h3, if_neg (nI_nlt (by omega) (by omega))]
    | succ j ih =>
      intro N1 k h2 h3 hk
      obtain ⟨N2, e2, r2, r3, r4, r5⟩ := ih (sI N1 366 2 (nI (k + 1))) (k + 1) (z_sIs _ _ _ _) ((z_sIk _ _ _ _ (by decide)).trans h3) (by omega)
      by_cases c : N1.1 367 k = 10 ∨ N1.1 367 k = 32
      · refine ⟨N2, fun m hm => ?_, r2, (z_LX.rf.s (Or.inl rfl)).tr r3, r4.trans (z_sIk _ _ _ _ (by decide)), r5.trans (z_sIk _ _ _ _ (by decide))⟩
        obtain ⟨m, rfl⟩ : ∃ m', m = m' + 1 := ⟨m - 1, by omega⟩
        rw [lp_Mo_look_0, h2, h3, if_pos (nI_lt (by omega) (by omega)), jm_0, zi_367 _ (by omega), nI_1]
        simp only [Option.bind_some]
        by_cases c1 : N1.1 367 k = 10
        · rw [if_pos c1]; exact e2 m (by omega)
        · rw [if_neg c1, if_pos (by rcases c with q | q; exact absurd q c1; exact q)]; exact e2 m (by omega)
      · refine ⟨N1, fun m hm => ?_, ⟨h3, k, by omega, h2⟩, z_LX.rf, rfl, rfl⟩
        obtain ⟨m, rfl⟩ : ∃ m', m = m' + 1 := ⟨m - 1, by omega⟩
        rw [lp_Mo_look_0, h2, h3, if_pos (nI_lt (by omega) (by omega)), jm_0, zi_367 _ (by omega)]
        simp only [Option.bind_some]
        rw [if_neg (fun q => c (Or.inl q)), if_neg (fun q => c (Or.inr q))]
  obtain ⟨h3, k, hk, h2⟩ := h
  obtain ⟨N2, e2, r2, r3, r4, r5⟩ := loop (n - k) N k h2 h3 (by omega)
  unfold f_Mo_look
  refine z_eq (e2 jfuel (by rw [z_jf]; omega)) ?_
  obtain ⟨r23, k2, hk2, r22⟩ := id r2
  rw [r22, r23]
  refine z_lt _ _ rfl rfl (by omega) (by omega) (fun c => ?_) (fun c => z_some ⟨r2, r3, r4, r5⟩)
  rw [jm_0]
  exact z_eq (zi_367 _ (by omega)) (z_some ⟨r2, r3, r4, r5⟩)
theorem b_part (hn : n ≤ 1600) (h : z_av n N) (h5 : N.1 366 5 ≠ 0) : z_ok (f_Mo_partTold 366 N) (fun N' => z_PX N N' ∧ N'.1 366 5 = N.1 366 5 ∧ N'.1 366 6 = N.1 366 6) := by
  have h1 : z_av n (sI N 366 44 0) := h.s (by decide) (by decide)
  obtain ⟨⟨v, N1⟩, e1, a1, x1, r5, r6⟩ := b_look hn h1
  have r5 : N1.1 366 5 = N.1 366 5 := (show N1.1 366 5 = (sI N 366 44 0).1 366 5 from r5).trans (z_sIk _ _ _ _ (by decide))
  have r6 : N1.1 366 6 = N.1 366 6 := (show N1.1 366 6 = (sI N 366 44 0).1 366 6 from r6).trans (z_sIk _ _ _ _ (by decide))
  have x1 : z_LX (sI N 366 44 0) N1 := x1
  have b1 : (sI N1 366 46 0).1 366 5 ≠ 0 := by rw [z_sIk _ _ _ _ (by decide), r5]; exact h5
  have eg : f_Mo_groupTold 366 (sI N 366 44 0) = some (sI N1 366 46 0) := by
    unfold f_Mo_groupTold
    rw [e1]
    simp only [Option.bind_some]
    rw [show jfuel = 1999 + 1 from rfl, z_17_bad b1 1999]
    simp only [Option.bind_some]
    rw [if_neg b1]
  have el : lp_Mo_partTold_5 366 (1999 + 1) (sI N 366 44 0) = some (sI N1 366 46 0) := by
    rw [lp_Mo_partTold_5, eg]
    simp only [Option.bind_some]
    rw [if_neg b1]
  unfold f_Mo_partTold
  rw [show jfuel = 1999 + 1 from rfl]
  refine z_eq el (z_some ⟨((z_PX.rf.s (Or.inl rfl)).tr x1.px).s (Or.inr rfl), ?_, ?_⟩)
  · exact (z_sIk _ _ _ _ (by decide)).trans r5
  · exact (z_sIk _ _ _ _ (by decide)).trans r6
end
section
variable {T : Nat → Nat} {n b a : Nat} {M N : SM} {A : ZA} {nm : Nat → Nat → Nat} {R : Nat}
/-- a word that is asked -/
theorem g_word (hw : z_wt n T) (h : z_BT T n b M N) {a r : Nat} {w : List Nat} (hL : jsln a = nI w.length) (hw12 : w.length ≤ 12)
    (hch : ∀ i, i < w.length → jsch a (nI (0 + i)) = some (nI (w.getD i 0))) (hcb : ∀ i, i < w.length → w.getD i 0 < 256)
    (hr : jln r = w.length) (hN : ∀ i, i < w.length → N.1 r i = nI (w.getD i 0)) (hr366 : r ≠ 366) :
    z2 (f_Re_takeWord 3 a M) (f_Mo_asks 366 r N) (fun q N' => z_RE M q.2 ∧ z_LX N N' ∧ ((q.1 = 1 ∧ z_BT T n (z_en T n b) q.2 N' ∧ z_SF M q.2 ∧ z_is T n b w ∧ b < z_en T n b) ∨ (q.1 = 0 ∧ z_FF q.2 N' ∧ z_av n N'))) := by
  obtain ⟨hm, hR, hT, a', hF⟩ := h
  obtain ⟨N', em, m1, m2⟩ := m_asks hw hm hF hr hw12 hN hcb hr366
  have av := p_asks hw hm hF hr hw12 hN hcb hr366 em
  obtain ⟨q, ec, c1, c2⟩ := c_word hw hT hm.1 hR hL hw12 hch hcb
  refine ⟨q, N', ec, em, ?_⟩
  refine ⟨c1, m1, ?_⟩
  rcases c2 with ⟨y, e, r1, r2⟩ | ⟨y, e, r1⟩
  · rcases m2 with ⟨_, m2⟩ | ⟨x, _⟩
    · have hs := z_so_lt hm.1 (show z_so T n b ≠ 0 by rw [y.1]; decide)
      have he := z_en_s (T := T) hm.1
      have hk := z_sk_s (T := T) hm.1
      exact Or.inl ⟨e, ⟨he.2.2.2, r1, hT.re c1, _, m2⟩, r2, y, Nat.lt_of_le_of_lt hk.1 (he.2.2.1 hs)⟩
    · exact absurd y x
  · rcases m2 with ⟨x, _⟩ | ⟨_, m2⟩
    · exact absurd x y
    · exact Or.inr ⟨e, ⟨1, _, r1, by decide, by decide, m2⟩, av⟩
/-- a sign that is asked -/
theorem g_sign (hw : z_wt n T) (h : z_BT T n b M N) {c : Nat} (hc : ¬ z_al c) (hc2 : c < 256) :
    z2 (f_Re_takeSign 3 (nI c) M) (f_Mo_asksSign 366 (nI c) N) (fun q N' => z_RE M q.2 ∧ z_LX N N' ∧ ((q.1 = 1 ∧ z_BT T n (z_en T n b) q.2 N' ∧ z_SF M q.2 ∧ z_sg T n b c ∧ b < z_en T n b) ∨ (q.1 = 0 ∧ z_FF q.2 N'))) := by
  obtain ⟨hm, hR, hT, a', hF⟩ := h
  refine z2_mono (z2_of (c_sign hw hT hm.1 hR hc2) (m_asksS hw hm hF hc hc2)) (fun q N' hq => ?_)
  obtain ⟨⟨c1, c2⟩, m1, m2⟩ := hq
  refine ⟨c1, m1, ?_⟩
  rcases c2 with ⟨y, e, r1, r2⟩ | ⟨y, e, r1⟩
  · rcases m2 with ⟨_, m2⟩ | ⟨x, _⟩
    · have hs := z_so_lt hm.1 (show z_so T n b ≠ 0 by rw [y.1]; decide)
      have he := z_en_s (T := T) hm.1
      have hk := z_sk_s (T := T) hm.1
      exact Or.inl ⟨e, ⟨he.2.2.2, r1, hT.re c1, _, m2⟩, r2, y, Nat.lt_of_le_of_lt hk.1 (he.2.2.1 hs)⟩
    · exact absurd y x
  · rcases m2 with ⟨x, _⟩ | ⟨_, m2⟩
    · exact absurd x y
    · exact Or.inr ⟨e, 1, _, r1, by decide, by decide, m2⟩
/-- a number -/
theorem g_num (hw : z_wt n T) (h : z_BT T n b M N) {lo hi : Nat} (hlo : lo < 2 ^ 30) (hhi : hi < 2 ^ 30) :
    z2 (f_Re_takeNumber 3 (nI lo) (nI hi) M) (f_Mo_number 366 (nI lo) (nI hi) N) (fun q r => z_RE M q.2 ∧ z_LX N r.2 ∧ ((∃ v, q.1 = nI v ∧ r.1 = nI v ∧ lo ≤ v ∧ v ≤ hi ∧ z_BT T n (z_en T n b) q.2 r.2 ∧ z_SF M q.2 ∧ r.2.1 366 9 = nI (z_sk T n b) ∧ b < z_en T n b ∧ z_so T n b = 2) ∨ (q.1 = -1 ∧ z_FF q.2 r.2 ∧ z_av n r.2))) := by
  obtain ⟨hm, hR, hT, a', hF⟩ := h
  obtain ⟨r, em, m1, m2⟩ := m_num hw hm hF hlo hhi
  have av := p_num hw hm hF em
  obtain ⟨q, ec, c1, c2⟩ := c_num hw hT hm.1 hR hlo hhi
  refine ⟨q, r, ec, em, ?_⟩
  refine ⟨c1, m1, ?_⟩
  rcases c2 with ⟨y, e, r1, r2⟩ | ⟨f, p, y, e, r1⟩
  · rcases m2 with ⟨_, m2, m3, m4⟩ | ⟨f, p, x, _⟩
    · have so : z_so T n b = 2 := by
        unfold z_nf at y
        by_cases s : z_so T n b = 2
        · exact s
        · first | cases y | (rw [if_pos s] at y; cases y)
      have bd : ¬ (z_nv T (z_sk T n b) (z_en T n b - z_sk T n b) < lo ∨ hi < z_nv T (z_sk T n b) (z_en T n b - z_sk T n b)) := by
        intro s
        unfold z_nf at y
        rw [if_neg (fun q => q so)] at y
        split at y
        · cases y
        · first | cases y | (rw [if_pos s] at y; cases y)
      have hs := z_so_lt hm.1 (show z_so T n b ≠ 0 by rw [so]; decide)
      have he := z_en_s (T := T) hm.1
      have hk := z_sk_s (T := T) hm.1
      exact Or.inl ⟨_, e, m2, by omega, by omega, ⟨he.2.2.2, r1, hT.re c1, _, m3⟩, r2, m4, Nat.lt_of_le_of_lt hk.1 (he.2.2.1 hs), so⟩
    · rw [y] at x; cases x
  · rcases m2 with ⟨x, _⟩ | ⟨f', p', x, m2, m3⟩
    · rw [y] at x; cases x
    · have hf : 0 < f' ∧ f' < 100 := by
        refine ⟨m2, ?_⟩
        unfold z_nf at x
        split at x
        · cases x; decide
        · split at x
          · cases x; decide
          · split at x
            · cases x; decide
            · cases x
      rw [y] at x
      cases x
      exact Or.inr ⟨e, ⟨f, p, r1, hf.1, hf.2, m3⟩, av⟩
/-! the reference with a FAULT does nothing -/
theorem b_asks {r : Nat} (h : N.1 366 5 ≠ 0) : f_Mo_asks 366 r N = some N := if_neg h
theorem b_sign {c : Int32} (h : N.1 366 5 ≠ 0) : f_Mo_asksSign 366 c N = some N := if_neg h
theorem b_num {x y : Int32} (h : N.1 366 5 ≠ 0) : f_Mo_number 366 x y N = some (0, N) := if_neg h
theorem b_cell (h : N.1 366 5 ≠ 0) : f_Mo_cellTold 366 N = some (0, N) := by
  unfold f_Mo_cellTold; rw [b_num h]; rfl
theorem b_newName (h : N.1 366 5 ≠ 0) : f_Mo_newName 366 N = some (0, N) := by
  unfold f_Mo_newName f_Mo_name
  rw [if_neg h]
  exact (congrArg (fun o => Option.bind o _) (m_newBad (v := 0) h)).trans rfl
end
