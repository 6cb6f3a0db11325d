/-! ===== pure: what the reference takes ===== -/
def z_al (x : Nat) : Prop := z_le x ∨ z_di x
def z_ed (T : Nat → Nat) (b : Nat) (N : SM) : Prop := (0 < b ∧ z_al (T (b - 1)) ∧ N.1 366 4 = nI b) ∨ (¬ (0 < b ∧ z_al (T (b - 1))) ∧ (N.1 366 4 = -1 ∨ ∃ e, e < b ∧ N.1 366 4 = nI e))
/-- the reference stands between what was taken up to b and what is next: a -/
def z_RF (T : Nat → Nat) (n b a : Nat) (N : SM) : Prop := N.1 366 2 = nI a ∧ b ≤ a ∧ a ≤ z_sk T n b ∧ N.1 366 3 = nI n ∧ z_ed T b N ∧ N.1 366 5 = 0 ∧ N.1 366 6 = -1 ∧ ∀ k, k < n → N.1 367 k = nI (T k)
/-- what reading changes -/
def z_LX (N N' : SM) : Prop := z_Fr (fun i => i ≠ 366) N N' ∧ ∀ k, (k ≠ 2 ∧ k ≠ 4 ∧ k ≠ 5 ∧ k ≠ 6 ∧ k ≠ 9 ∧ k ≠ 27) → N'.1 366 k = N.1 366 k
theorem z_LX.rf {N : SM} : z_LX N N := ⟨z_Fr.rf, fun _ _ => rfl⟩
theorem z_LX.tr {M M' M'' : SM} (h : z_LX M M') (k : z_LX M' M'') : z_LX M M'' := ⟨h.1.tr k.1, fun i p => (k.2 i p).trans (h.2 i p)⟩
theorem z_LX.s {N N' : SM} {k : Nat} {v : Int32} (h : z_LX N N') (hk : k = 2 ∨ k = 4 ∨ k = 5 ∨ k = 6 ∨ k = 9 ∨ k = 27) : z_LX N (sI N' 366 k v) := ⟨h.1.sI (by omega), fun j q => by rw [z_sIk _ _ _ _ (by omega)]; exact h.2 j q⟩
def z_MF (f p : Nat) (N : SM) : Prop := N.1 366 5 = nI f ∧ N.1 366 6 = nI p
section
variable {T : Nat → Nat} {n b a : Nat} {N : SM}
theorem m_isLe {x : Nat} (hx : x < 2 ^ 30) : f_Mo_isLetter (nI x) = some (if z_le x then 1 else 0) := c_isLe hx
theorem m_isDi {x : Nat} (hx : x < 2 ^ 30) : f_Mo_isDigit (nI x) = some (if z_di x then 1 else 0) := c_isDi hx
theorem z_RF.at {a' : Nat} (h : z_RF T n b a N) (h1 : b ≤ a') (h2 : a' ≤ z_sk T n b) : z_RF T n b a' (sI N 366 2 (nI a')) := by
  obtain ⟨r1, r2, r3, r4, r5, r6, r7, r8⟩ := h
  refine ⟨z_sIs _ _ _ _, h1, h2, (z_sIk _ _ _ _ (by decide)).trans r4, ?_, (z_sIk _ _ _ _ (by decide)).trans r6, (z_sIk _ _ _ _ (by decide)).trans r7, fun k hk => by rw [z_sIa _ _ _ _ (by decide)]; exact r8 k hk⟩
  unfold z_ed
  rw [z_sIk _ _ _ _ (by decide)]
  exact r5
theorem m_look (hw : z_wt n T) (hb : b ≤ n) (h : z_RF T n b a N) : z_ok (f_Mo_look 366 N) (fun r => r.1 = (if z_sk T n b < n then nI (T (z_sk T n b)) else -1) ∧ z_RF T n b (z_sk T n b) r.2 ∧ z_LX N r.2) := by
  have hn := hw.1
  have hs := z_sk_s (T := T) hb
  have loop : ∀ j a N, z_RF T n b a N → a + j = z_sk T n b → ∃ N', z_RF T n b (z_sk T n b) N' ∧ z_LX N N' ∧ ∀ m, j < m → lp_Mo_look_0 366 m N = some N' := by
    intro j
    induction j with
    | zero =>
      intro a N h ha
      have ha : a = z_sk T n b := ha
      subst ha
      refine ⟨N, h, z_LX.rf, fun m hm => ?_⟩
      obtain ⟨m, rfl⟩ : ∃ m', m = m' + 1 := ⟨m - 1, by omega⟩
      rw [lp_Mo_look_0, h.1, h.2.2.2.1]
      by_cases c : z_sk T n b < n
      · have hT := hw.2 _ c
        have hbl := hs.2.2.2 c
        rw [if_pos (nI_lt c (by omega)), jm_0, zi_367 _ (by omega), h.2.2.2.2.2.2.2 _ c]
        simp only [Option.bind_some]
        rw [if_neg (fun (e : nI (T (z_sk T n b)) = 10) => hbl (Or.inl ((nI_eq (b := 10) (by omega) (by decide)).mp e))), if_neg (fun (e : nI (T (z_sk T n b)) = 32) => hbl (Or.inr ((nI_eq (b := 32) (by omega) (by decide)).mp e)))]
      · rw [if_neg (nI_nlt (by omega) (by omega))]
    | succ j ih =>
      intro a N h ha
      have hab : a < z_sk T n b := by omega
      have hbl := hs.2.2.1 a h.2.1 hab
      obtain ⟨N', h1, h2, h3⟩ := ih (a + 1) (sI N 366 2 (nI (a + 1))) (h.at (by have := h.2.1; omega) (by omega)) (by omega)
      refine ⟨N', h1, (z_LX.rf.s (Or.inl rfl)).tr h2, fun m hm => ?_⟩
      obtain ⟨m, rfl⟩ : ∃ m', m = m' + 1 := ⟨m - 1, by omega⟩
      have hT := hw.2 a (by omega)
      rw [lp_Mo_look_0, h.1, h.2.2.2.1, if_pos (nI_lt (by omega) (by omega)), jm_0, zi_367 _ (by omega), h.2.2.2.2.2.2.2 a (by omega), nI_1]
      simp only [Option.bind_some]
      by_cases c : T a = 10
      · rw [if_pos (show nI (T a) = 10 by rw [c]; rfl)]; exact h3 m (by omega)
      · have c2 : T a = 32 := by rcases hbl with q | q; exact absurd q c; exact q
        rw [if_neg (fun (e : nI (T a) = 10) => c ((nI_eq (b := 10) (by omega) (by decide)).mp e)), if_pos (show nI (T a) = 32 by rw [c2]; rfl)]; exact h3 m (by omega)
  obtain ⟨N', h1, h2, h3⟩ := loop (z_sk T n b - a) a N h (by have := h.2.2.1; omega)
  unfold f_Mo_look
  refine z_eq (h3 jfuel (by rw [z_jf]; omega)) ?_
  rw [h1.1, h1.2.2.2.1]
  refine z_lt _ _ rfl rfl (by omega) (by omega) (fun c => ?_) (fun c => z_some ⟨by rw [if_neg (by omega)], h1, h2⟩)
  rw [jm_0]
  refine z_eq (zi_367 _ (by omega)) (z_some ⟨?_, h1, h2⟩)
  rw [if_pos c]; exact h1.2.2.2.2.2.2.2 _ c
/-- does what is next touch what was taken -/
theorem z_ed_q (hw : z_wt n T) (hb : b ≤ n) (h : z_RF T n b (z_sk T n b) N) : N.1 366 2 = N.1 366 4 ↔ (z_sk T n b = b ∧ 0 < b ∧ z_al (T (b - 1))) := by
  have hn := hw.1
  have hs := z_sk_s (T := T) hb
  rw [h.1]
  rcases h.2.2.2.2.1 with ⟨e1, e2, e3⟩ | ⟨e1, e2⟩
  · rw [e3, nI_eq (by omega) (by omega)]
    exact ⟨fun q => ⟨q, e1, e2⟩, fun q => q.1⟩
  · constructor
    · intro q
      rcases e2 with e2 | ⟨e, he, e2⟩
      · rw [e2] at q; exact absurd q (z_neg1 (by omega))
      · rw [e2, nI_eq (by omega) (by omega)] at q; omega
    · intro q; exact absurd q.2 e1
theorem z_so_le (hm : z_mb T n b) (hk : z_sk T n b < n) (h1 : z_le (T (z_sk T n b))) : z_so T n b = 1 ↔ ¬ (z_sk T n b = b ∧ 0 < b ∧ z_al (T (b - 1))) := by
  have ht := z_tou hm hk (Or.inl h1)
  rw [if_pos h1] at ht
  unfold z_al
  rw [← ht]
  unfold z_so
  rw [if_neg (by omega), if_pos h1]
  constructor
  · intro h; split at h
    · omega
    · assumption
  · intro h; rw [if_neg h]
theorem z_so_di (hm : z_mb T n b) (hk : z_sk T n b < n) (h1 : z_di (T (z_sk T n b))) : z_so T n b = 2 ↔ ¬ (z_sk T n b = b ∧ 0 < b ∧ z_al (T (b - 1))) := by
  have hnl : ¬ z_le (T (z_sk T n b)) := by omega
  have ht := z_tou hm hk (Or.inr h1)
  rw [if_neg hnl] at ht
  unfold z_al
  rw [← ht]
  unfold z_so
  rw [if_neg (by omega), if_neg hnl, if_pos h1]
  constructor
  · intro h; split at h
    · omega
    · assumption
  · intro h; rw [if_neg h]
/-- the word that is asked, is it here -/
theorem m_here (hw : z_wt n T) (hm : z_mb T n b) (h : z_RF T n b a N) {r : Nat} {w : List Nat} (hr : jln r = w.length) (hw12 : w.length ≤ 12) (hch : ∀ i, i < w.length → N.1 r i = nI (w.getD i 0)) (hcb : ∀ i, i < w.length → w.getD i 0 < 256) (hr366 : r ≠ 366) :
    z_ok (f_Mo_isHere 366 r N) (fun q => q.1 = (if z_is T n b w then 1 else 0) ∧ z_RF T n b (z_sk T n b) q.2 ∧ z_LX N q.2) := by
  have hn := hw.1
  have hb := hm.1
  have hs := z_sk_s (T := T) hb
  have hen := z_en_s (T := T) hb
  unfold f_Mo_isHere
  refine z_pos h.2.2.2.2.2.1 ?_
  refine z_bind (m_look hw hb h) (fun q hq => ?_)
  obtain ⟨q1, q2, q3⟩ := hq
  rw [q1]
  by_cases c0 : z_sk T n b < n
  · have hT := hw.2 _ c0
    rw [if_pos c0]
    refine z_eq (m_isLe (by omega)) ?_
    rw [z_if01]
    by_cases c1 : z_le (T (z_sk T n b))
    · rw [if_pos c1]
      have hso := z_so_le hm c0 c1
      refine z_ite (fun e => z_some ⟨?_, q2, q3⟩) (fun e => ?_)
      · rw [if_neg (fun q => (hso.mp q.1) ((z_ed_q hw hb q2).mp e))]
      · have hs1 : z_so T n b = 1 := hso.mpr (fun q => e ((z_ed_q hw hb q2).mpr q))
        have h1 := z_so_1 hs1
        have hwd := z_wd_s (T := T) (n := n) hs.2.1
        rw [q2.1]
        refine z_bind (P := fun v => v = nI (z_en T n b)) ?_ (fun v hv => ?_)
        · refine z_loop0 (fun m c => lp_Mo_isHere_35 366 q.2 m c) (fun c => z_sk T n b ≤ c) _ (z_en T n b) ?_ ?_ jfuel (z_sk T n b) hen.1 (by rw [z_jf]; omega) (Nat.le_refl _)
          · intro m c hc hI k
            show z_ok (lp_Mo_isHere_35 366 q.2 (m + 1) (nI c)) _
            have hTc := hw.2 c (by omega)
            rw [lp_Mo_isHere_35, q2.2.2.2.1, jm_0]
            refine z_pos (nI_lt (by omega) (by omega)) ?_
            refine z_eq (zi_367 _ (by omega)) ?_
            rw [q2.2.2.2.2.2.2.2 c (by omega)]
            refine z_eq (m_isLe (by omega)) ?_
            rw [if_pos (hwd.2.2.1 c hI (by rw [← h1.2.2]; exact hc))]
            refine z_neg z_10 ?_
            rw [nI_1]; exact k (by omega)
          · intro m hI
            show z_ok (lp_Mo_isHere_35 366 q.2 (m + 1) (nI (z_en T n b))) _
            rw [lp_Mo_isHere_35, q2.2.2.2.1, jm_0]
            by_cases c : z_en T n b < n
            · have hTc := hw.2 _ c
              refine z_pos (nI_lt c (by omega)) ?_
              refine z_eq (zi_367 _ (by omega)) ?_
              rw [q2.2.2.2.2.2.2.2 _ c]
              refine z_eq (m_isLe (by omega)) ?_
              have := hwd.2.2.2 (by rw [← h1.2.2]; exact c)
              rw [← h1.2.2] at this
              rw [if_neg this]
              exact z_pos rfl (z_some rfl)
            · exact z_neg (nI_nlt (by omega) (by omega)) (z_some rfl)
        · subst hv
          rw [z_sub hen.1, hr]
          refine z_ee _ _ rfl rfl (by omega) (by omega) (fun c2 => ?_) (fun c2 => z_some ⟨by rw [if_neg (fun q => c2 (by have := q.2.1; omega))], q2, q3⟩)
          refine z_jsb (P := fun t => (t = .inl () ∧ ∀ i, i < w.length → T (z_sk T n b + i) = w.getD i 0) ∨ (t = .inr (0, q.2) ∧ ¬ ∀ i, i < w.length → T (z_sk T n b + i) = w.getD i 0)) ?_ (fun e he => ?_) (fun u hu => ?_)
          · show z_ok (lp_Mo_isHere_76 366 r q.2 jfuel (nI 0)) _
            refine z_loop0 (fun m c => lp_Mo_isHere_76 366 r q.2 m c) (fun c => ∀ i, i < c → T (z_sk T n b + i) = w.getD i 0) _ w.length ?_ ?_ jfuel 0 (by omega) (by rw [z_jf]; omega) (fun i hi => by omega)
            · intro m c hc hI k
              show z_ok (lp_Mo_isHere_76 366 r q.2 (m + 1) (nI c)) _
              have hTc := hw.2 (z_sk T n b + c) (by omega)
              have h2 := hcb c hc
              rw [lp_Mo_isHere_76, hr, jm_0, q2.1, nI_add]
              refine z_pos (nI_lt hc (by omega)) ?_
              refine z_eq (zi_367 _ (by omega)) ?_
              refine z_eq (z_aI hr hc (by omega)) ?_
              rw [q2.2.2.2.2.2.2.2 _ (by omega), q3.1.1 r hr366, hch c hc, nI_1]
              refine z_ee _ _ rfl rfl (by omega) (by omega) (fun e => k (fun i hi => ?_)) (fun e => z_some (Or.inr ⟨rfl, fun q => e (q c hc)⟩))
              by_cases e2 : i = c
              · rw [e2]; exact e
              · exact hI i (by omega)
            · intro m hI
              show z_ok (lp_Mo_isHere_76 366 r q.2 (m + 1) (nI w.length)) _
              rw [lp_Mo_isHere_76, hr]
              exact z_neg (nI_nlt (Nat.le_refl _) (by omega)) (z_some (Or.inl ⟨rfl, hI⟩))
          · rcases he with ⟨_, he⟩ | ⟨he, _⟩
            · exact z_some ⟨by rw [if_pos ⟨hs1, by omega, he⟩], q2, q3⟩
            · cases he
          · rcases hu with ⟨hu, _⟩ | ⟨hu, hu2⟩
            · cases hu
            · rw [Sum.inr.inj hu]
              exact ⟨by rw [if_neg (fun q => hu2 q.2.2)]; rfl, q2, q3⟩
    · rw [if_neg c1]
      exact z_some ⟨by rw [if_neg (fun q => c1 (z_so_1 q.1).2.1)], q2, q3⟩
  · rw [if_neg c0]
    refine z_eq (r := (0 : Int32)) rfl ?_
    exact z_pos rfl (z_some ⟨by rw [if_neg (fun q => c0 (z_so_1 q.1).1)], q2, q3⟩)
/-- behind a word or a number that was taken -/
theorem z_RF.go {k : Nat} (hm : z_mb T n b) (h : z_RF T n b (z_sk T n b) N) (hso : z_so T n b = 1 ∨ z_so T n b = 2) (hk : k = z_en T n b) : z_RF T n (z_en T n b) (z_en T n b) (sI (sI N 366 2 (nI k)) 366 4 (nI k)) := by
  obtain ⟨r1, r2, r3, r4, r5, r6, r7, r8⟩ := h
  have hs := z_sk_s (T := T) hm.1
  have hen := z_en_s (T := T) hm.1
  subst hk
  have hlt := hen.2.2.1 (z_so_lt hm.1 (by omega))
  have hal : z_al (T (z_en T n b - 1)) := by
    rcases hso with h | h
    · have h1 := z_so_1 h
      have hwd := z_wd_s (T := T) (n := n) hs.2.1
      rw [h1.2.2] at hlt ⊢
      exact Or.inl (hwd.2.2.1 _ (by omega) (by omega))
    · have h1 := z_so_2 h
      have hwd := z_dg_s (T := T) (n := n) hs.2.1
      rw [h1.2.2] at hlt ⊢
      exact Or.inr (hwd.2.2.1 _ (by omega) (by omega))
  exact ⟨(z_sIk _ _ _ _ (by decide)).trans (z_sIs _ _ _ _), Nat.le_refl _, (z_sk_s hen.2.1).1, (z_sIk _ _ _ _ (by decide)).trans ((z_sIk _ _ _ _ (by decide)).trans r4), Or.inl ⟨by omega, hal, z_sIs _ _ _ _⟩, (z_sIk _ _ _ _ (by decide)).trans ((z_sIk _ _ _ _ (by decide)).trans r6), (z_sIk _ _ _ _ (by decide)).trans ((z_sIk _ _ _ _ (by decide)).trans r7), fun k hk => by rw [z_sIa _ _ _ _ (by decide), z_sIa _ _ _ _ (by decide)]; exact r8 k hk⟩
theorem m_takes (hw : z_wt n T) (hm : z_mb T n b) (h : z_RF T n b a N) {r : Nat} {w : List Nat} (hr : jln r = w.length) (hw12 : w.length ≤ 12) (hch : ∀ i, i < w.length → N.1 r i = nI (w.getD i 0)) (hcb : ∀ i, i < w.length → w.getD i 0 < 256) (hr366 : r ≠ 366) :
    z_ok (f_Mo_takes 366 r N) (fun q => z_LX N q.2 ∧ ((z_is T n b w ∧ q.1 = 1 ∧ z_RF T n (z_en T n b) (z_en T n b) q.2) ∨ (¬ z_is T n b w ∧ q.1 = 0 ∧ z_RF T n b (z_sk T n b) q.2))) := by
  unfold f_Mo_takes
  refine z_bind (m_here hw hm h hr hw12 hch hcb hr366) (fun q hq => ?_)
  obtain ⟨q1, q2, q3⟩ := hq
  rw [q1, z_if01]
  by_cases c : z_is T n b w
  · rw [if_pos c, q2.1, hr, nI_add]
    refine z_some ⟨?_, Or.inl ⟨c, rfl, ?_⟩⟩
    · exact (q3.s (Or.inl rfl)).s (Or.inr (Or.inl rfl))
    · have := q2.go hm (k := z_sk T n b + w.length) (Or.inl c.1) c.2.1.symm
      rw [z_sIs]
      exact this
  · rw [if_neg c]
    exact z_some ⟨q3, Or.inr ⟨c, rfl, q2⟩⟩
theorem m_fail {f p : Nat} (h : N.1 366 5 = 0) : f_Mo_fail 366 (nI f) (nI p) N = some (sI (sI N 366 5 (nI f)) 366 6 (nI p)) := by
  unfold f_Mo_fail
  rw [if_pos h]
theorem z_MF.mk {N : SM} (f p : Nat) : z_MF f p (sI (sI N 366 5 (nI f)) 366 6 (nI p)) := ⟨(z_sIk _ _ _ _ (by decide)).trans (z_sIs _ _ _ _), z_sIs _ _ _ _⟩
theorem z_LX.f {N N' : SM} {v w : Int32} (h : z_LX N N') : z_LX N (sI (sI N' 366 5 v) 366 6 w) := (h.s (by omega)).s (by omega)
theorem m_asks (hw : z_wt n T) (hm : z_mb T n b) (h : z_RF T n b a N) {r : Nat} {w : List Nat} (hr : jln r = w.length) (hw12 : w.length ≤ 12) (hch : ∀ i, i < w.length → N.1 r i = nI (w.getD i 0)) (hcb : ∀ i, i < w.length → w.getD i 0 < 256) (hr366 : r ≠ 366) :
    z_ok (f_Mo_asks 366 r N) (fun N' => z_LX N N' ∧ ((z_is T n b w ∧ z_RF T n (z_en T n b) (z_en T n b) N') ∨ (¬ z_is T n b w ∧ z_MF 1 (z_sk T n b) N'))) := by
  unfold f_Mo_asks
  refine z_pos h.2.2.2.2.2.1 ?_
  refine z_bind (m_takes hw hm h hr hw12 hch hcb hr366) (fun q hq => ?_)
  obtain ⟨q1, q2⟩ := hq
  rcases q2 with ⟨c, e, q2⟩ | ⟨c, e, q2⟩
  · rw [e]
    exact z_neg z_10 (z_some ⟨q1, Or.inl ⟨c, q2⟩⟩)
  · rw [e]
    refine z_pos rfl ?_
    rw [q2.1]
    refine z_eq (m_fail (f := 1) q2.2.2.2.2.2.1) (z_some ⟨q1.f, Or.inr ⟨c, z_MF.mk _ _⟩⟩)
theorem z_sg_q {c : Nat} (hb : b ≤ n) (hc : ¬ z_al c) : z_sg T n b c ↔ (z_sk T n b < n ∧ T (z_sk T n b) = c) := by
  constructor
  · intro h; exact ⟨(z_so_3.mp h.1).1, h.2⟩
  · intro h
    refine ⟨z_so_3.mpr ⟨h.1, ?_, ?_⟩, h.2⟩
    · rw [h.2]; exact fun q => hc (Or.inl q)
    · rw [h.2]; exact fun q => hc (Or.inr q)
theorem z_en_3 (h : z_so T n b = 3) : z_en T n b = z_sk T n b + 1 := by
  have h1 := z_so_3.mp h
  unfold z_en
  rw [if_neg (by omega), if_neg h1.2.1, if_neg h1.2.2]
/-- behind a sign -/
theorem z_RF.sg {c : Nat} (hm : z_mb T n b) (h : z_RF T n b (z_sk T n b) N) (hso : z_so T n b = 3) : z_RF T n (z_en T n b) (z_en T n b) (sI N 366 2 (nI (z_sk T n b + 1))) := by
  obtain ⟨r1, r2, r3, r4, r5, r6, r7, r8⟩ := h
  have hs := z_sk_s (T := T) hm.1
  have hen := z_en_s (T := T) hm.1
  have e3 := z_en_3 hso
  have h3 := z_so_3.mp hso
  rw [e3] at hen ⊢
  refine ⟨z_sIs _ _ _ _, Nat.le_refl _, (z_sk_s hen.2.1).1, (z_sIk _ _ _ _ (by decide)).trans r4, Or.inr ⟨?_, ?_⟩, (z_sIk _ _ _ _ (by decide)).trans r6, (z_sIk _ _ _ _ (by decide)).trans r7, fun k hk => by rw [z_sIa _ _ _ _ (by decide)]; exact r8 k hk⟩
  · rintro ⟨_, q⟩
    rw [show z_sk T n b + 1 - 1 = z_sk T n b by omega] at q
    rcases q with q | q
    · exact h3.2.1 q
    · exact h3.2.2 q
  · rw [z_sIk _ _ _ _ (by decide)]
    rcases r5 with ⟨_, _, e⟩ | ⟨_, e⟩
    · exact Or.inr ⟨b, by omega, e⟩
    · rcases e with e | ⟨j, hj, e⟩
      · exact Or.inl e
      · exact Or.inr ⟨j, by omega, e⟩
theorem m_takesS (hw : z_wt n T) (hm : z_mb T n b) (h : z_RF T n b a N) {c : Nat} (hc : ¬ z_al c) (hc2 : c < 256) :
    z_ok (f_Mo_takesSign 366 (nI c) N) (fun q => z_LX N q.2 ∧ ((z_sg T n b c ∧ q.1 = 1 ∧ z_RF T n (z_en T n b) (z_en T n b) q.2) ∨ (¬ z_sg T n b c ∧ q.1 = 0 ∧ z_RF T n b (z_sk T n b) q.2))) := by
  have hb := hm.1
  have hs := z_sk_s (T := T) hb
  have hn := hw.1
  unfold f_Mo_takesSign
  refine z_pos h.2.2.2.2.2.1 ?_
  refine z_bind (m_look hw hb h) (fun q hq => ?_)
  obtain ⟨q1, q2, q3⟩ := hq
  rw [q1]
  by_cases c0 : z_sg T n b c
  · have h1 := (z_sg_q hb hc).mp c0
    rw [if_pos h1.1, h1.2]
    refine z_pos rfl ?_
    rw [q2.1, nI_1]
    exact z_some ⟨q3.s (Or.inl rfl), Or.inl ⟨c0, rfl, q2.sg (c := c) hm c0.1⟩⟩
  · refine z_neg ?_ (z_some ⟨q3, Or.inr ⟨c0, rfl, q2⟩⟩)
    intro e
    apply c0
    rw [z_sg_q hb hc]
    by_cases c1 : z_sk T n b < n
    · have hT := hw.2 _ c1
      rw [if_pos c1] at e
      exact ⟨c1, (nI_eq (by omega) (by omega)).mp e⟩
    · rw [if_neg c1] at e
      exact absurd e.symm (z_neg1 (by omega))
theorem m_asksS (hw : z_wt n T) (hm : z_mb T n b) (h : z_RF T n b a N) {c : Nat} (hc : ¬ z_al c) (hc2 : c < 256) :
    z_ok (f_Mo_asksSign 366 (nI c) N) (fun N' => z_LX N N' ∧ ((z_sg T n b c ∧ z_RF T n (z_en T n b) (z_en T n b) N') ∨ (¬ z_sg T n b c ∧ z_MF 1 (z_sk T n b) N'))) := by
  unfold f_Mo_asksSign
  refine z_pos h.2.2.2.2.2.1 ?_
  refine z_bind (m_takesS hw hm h hc hc2) (fun q hq => ?_)
  obtain ⟨q1, q2⟩ := hq
  rcases q2 with ⟨c, e, q2⟩ | ⟨c, e, q2⟩
  · rw [e]
    exact z_neg z_10 (z_some ⟨q1, Or.inl ⟨c, q2⟩⟩)
  · rw [e]
    refine z_pos rfl ?_
    rw [q2.1]
    refine z_eq (m_fail (f := 1) q2.2.2.2.2.2.1) (z_some ⟨q1.f, Or.inr ⟨c, z_MF.mk _ _⟩⟩)
/-- a number -/
theorem m_num (hw : z_wt n T) (hm : z_mb T n b) (h : z_RF T n b a N) {lo hi : Nat} (hlo : lo < 2 ^ 30) (hhi : hi < 2 ^ 30) :
    z_ok (f_Mo_number 366 (nI lo) (nI hi) N) (fun r => z_LX N r.2 ∧ ((z_nf T n b lo hi = none ∧ r.1 = nI (z_nv T (z_sk T n b) (z_en T n b - z_sk T n b)) ∧ z_RF T n (z_en T n b) (z_en T n b) r.2 ∧ r.2.1 366 9 = nI (z_sk T n b)) ∨ (∃ f p, z_nf T n b lo hi = some (f, p) ∧ 0 < f ∧ z_MF f p r.2))) := by
  have hn := hw.1
  have hb := hm.1
  have hs := z_sk_s (T := T) hb
  have hen := z_en_s (T := T) hb
  have hnf : z_nf T n b lo hi = if z_so T n b ≠ 2 then some (1, z_sk T n b) else if 4 < z_en T n b - z_sk T n b then some (1, z_sk T n b + 4) else if z_nv T (z_sk T n b) (z_en T n b - z_sk T n b) < lo ∨ hi < z_nv T (z_sk T n b) (z_en T n b - z_sk T n b) then some (2, z_sk T n b) else none := rfl
  unfold f_Mo_number
  refine z_pos h.2.2.2.2.2.1 ?_
  refine z_bind (m_look hw hb h) (fun q hq => ?_)
  obtain ⟨q1, q2, q3⟩ := hq
  rw [q1]
  have no : z_so T n b ≠ 2 → z_ok ((f_Mo_fail 366 1 (q.2.1 366 2) q.2).bind fun q5 => some ((0 : Int32), q5)) (fun r => z_LX N r.2 ∧ ((z_nf T n b lo hi = none ∧ r.1 = nI (z_nv T (z_sk T n b) (z_en T n b - z_sk T n b)) ∧ z_RF T n (z_en T n b) (z_en T n b) r.2 ∧ r.2.1 366 9 = nI (z_sk T n b)) ∨ (∃ f p, z_nf T n b lo hi = some (f, p) ∧ 0 < f ∧ z_MF f p r.2))) := fun c => by
    rw [q2.1]
    refine z_eq (m_fail (f := 1) q2.2.2.2.2.2.1) (z_some ⟨q3.f, Or.inr ⟨1, z_sk T n b, by rw [hnf, if_pos c], by decide, z_MF.mk _ _⟩⟩)
  by_cases c0 : z_sk T n b < n
  · have hT := hw.2 _ c0
    rw [if_pos c0]
    refine z_eq (m_isDi (by omega)) ?_
    rw [z_if01]
    by_cases c1 : z_di (T (z_sk T n b))
    · rw [if_pos c1]
      have hso := z_so_di hm c0 c1
      refine z_ite (fun e => no (fun q => (hso.mp q) ((z_ed_q hw hb q2).mp e))) (fun e => ?_)
      have hs2 : z_so T n b = 2 := hso.mpr (fun q => e ((z_ed_q hw hb q2).mpr q))
      have h2 := z_so_2 hs2
      have hdg := z_dg_s (T := T) (n := n) hs.2.1
      rw [if_neg (fun q => q hs2)] at hnf
      rw [q2.1]
      have hdi : ∀ j, z_sk T n b ≤ j → j < z_en T n b → z_di (T j) := fun j j1 j2 => hdg.2.2.1 j j1 (by rw [← h2.2.2]; exact j2)
      have hdi2 : ∀ j, j < z_en T n b - z_sk T n b → z_di (T (z_sk T n b + j)) := fun j hj => hdi _ (by omega) (by omega)
      -- the digits
      have loop : ∀ j c N1, z_sk T n b ≤ c → c + j = z_en T n b → c - z_sk T n b ≤ 4 → N1.1 366 2 = nI c → N1.1 366 3 = nI n → N1.1 366 5 = 0 → (∀ k, k < n → N1.1 367 k = nI (T k)) →
          ∃ t N2, z_LX N1 N2 ∧ (∀ m, j < m → lp_Mo_number_49 366 (nI (z_sk T n b)) m (nI (z_nv T (z_sk T n b) (c - z_sk T n b))) N1 = some t) ∧ ((z_en T n b - z_sk T n b ≤ 4 ∧ t = .inl (nI (z_nv T (z_sk T n b) (z_en T n b - z_sk T n b)), N2) ∧ N2 = (if c = z_en T n b then N1 else sI N1 366 2 (nI (z_en T n b)))) ∨ (4 < z_en T n b - z_sk T n b ∧ t = .inr (0, N2) ∧ z_MF 1 (z_sk T n b + 4) N2)) := by
        intro j
        induction j with
        | zero =>
          intro c N1 g1 g2 g3 e2 e3 e5 e8
          have g2 : c = z_en T n b := g2
          subst g2
          refine ⟨.inl (nI (z_nv T (z_sk T n b) (z_en T n b - z_sk T n b)), N1), N1, z_LX.rf, fun m hm => ?_, Or.inl ⟨g3, rfl, by rw [if_pos rfl]⟩⟩
          obtain ⟨m, rfl⟩ : ∃ m', m = m' + 1 := ⟨m - 1, by omega⟩
          rw [lp_Mo_number_49, e2, e3]
          by_cases c : z_en T n b < n
          · have hTc := hw.2 _ c
            rw [if_pos (nI_lt c (by omega)), jm_0, zi_367 _ (by omega), e8 _ c]
            simp only [Option.bind_some]
            have := hdg.2.2.2 (by rw [← h2.2.2]; exact c)
            rw [← h2.2.2] at this
            rw [m_isDi (by omega), if_neg this]; rfl
          · rw [if_neg (nI_nlt (by omega) (by omega))]
        | succ j ih =>
          intro c N1 g1 g2 g3 e2 e3 e5 e8
          have hd := hdi c g1 (by omega)
          have hTc := hw.2 c (by omega)
          by_cases c4 : c - z_sk T n b = 4
          · refine ⟨.inr (0, sI (sI N1 366 5 (nI 1)) 366 6 (nI (z_sk T n b + 4))), _, z_LX.rf.f, fun m hm => ?_, Or.inr ⟨by omega, rfl, z_MF.mk _ _⟩⟩
            obtain ⟨m, rfl⟩ : ∃ m', m = m' + 1 := ⟨m - 1, by omega⟩
            rw [lp_Mo_number_49, e2, e3, if_pos (nI_lt (by omega) (by omega)), jm_0, zi_367 _ (by omega), e8 _ (by omega)]
            simp only [Option.bind_some]
            rw [m_isDi (by omega), if_pos hd]
            simp only [Option.bind_some]
            rw [if_neg z_10, z_sub g1, c4, if_pos (show nI 4 = 4 from rfl)]
            have := m_fail (N := N1) (f := 1) (p := c) e5
            rw [show (1 : Int32) = nI 1 from rfl, this, show c = z_sk T n b + 4 by omega]; rfl
          · have e9 : z_nv T (z_sk T n b) (c + 1 - z_sk T n b) = 10 * z_nv T (z_sk T n b) (c - z_sk T n b) + (T c - 48) := by
              rw [show c + 1 - z_sk T n b = (c - z_sk T n b) + 1 by omega]
              show 10 * z_nv T (z_sk T n b) (c - z_sk T n b) + (T (z_sk T n b + (c - z_sk T n b)) - 48) = _
              rw [show z_sk T n b + (c - z_sk T n b) = c by omega]
            obtain ⟨t, N2, t1, t2, t3⟩ := ih (c + 1) (sI N1 366 2 (nI (c + 1))) (by omega) (by omega) (by omega) (z_sIs _ _ _ _) ((z_sIk _ _ _ _ (by decide)).trans e3) ((z_sIk _ _ _ _ (by decide)).trans e5) (fun k hk => by rw [z_sIa _ _ _ _ (by decide)]; exact e8 k hk)
            refine ⟨t, N2, (z_LX.rf.s (Or.inl rfl)).tr t1, fun m hm => ?_, ?_⟩
            · obtain ⟨m, rfl⟩ : ∃ m', m = m' + 1 := ⟨m - 1, by omega⟩
              have t2' := t2 m (by omega)
              rw [lp_Mo_number_49, e2, e3, if_pos (nI_lt (by omega) (by omega)), jm_0, zi_367 _ (by omega), e8 _ (by omega)]
              simp only [Option.bind_some]
              rw [m_isDi (by omega), if_pos hd]
              simp only [Option.bind_some]
              rw [if_neg z_10, z_sub g1, if_neg (fun (e : nI (c - z_sk T n b) = 4) => c4 ((nI_eq (b := 4) (by omega) (by decide)).mp e)), show (10 : Int32) = nI 10 from rfl, pk_mul, nI_add, show (48 : Int32) = nI 48 from rfl, z_sub (by omega), nI_1, ← t2', e9]
              congr 2; omega
            · rcases t3 with ⟨u1, u2, u3⟩ | u
              · refine Or.inl ⟨u1, u2, ?_⟩
                rw [u3, if_neg (show ¬ c = z_en T n b by omega)]
                by_cases e : c + 1 = z_en T n b
                · rw [if_pos e, ← e]
                · rw [if_neg e]
                  unfold sI
                  congr 1
                  funext a k
                  by_cases q : a = 366
                  · by_cases q2 : k = 2
                    · simp only [if_pos q, if_pos q2]
                    · simp only [if_pos q, if_neg q2]
                  · simp only [if_neg q]
              · exact Or.inr u
      obtain ⟨t, N2, t1, t2, t3⟩ := loop (z_en T n b - z_sk T n b) (z_sk T n b) q.2 (Nat.le_refl _) (by omega) (by omega) q2.1 q2.2.2.2.1 q2.2.2.2.2.2.1 q2.2.2.2.2.2.2.2
      rw [Nat.sub_self] at t2
      have t2' : lp_Mo_number_49 366 (nI (z_sk T n b)) jfuel 0 q.2 = some t := t2 jfuel (by rw [z_jf]; omega)
      rw [t2']
      rcases t3 with ⟨u1, u2, u3⟩ | ⟨u1, u2, u3⟩
      · rw [if_neg (by omega)] at hnf
        have hlt := hen.2.2.1 c0
        rw [if_neg (by omega)] at u3
        subst u3
        rw [u2]
        have hvb := z_nv_b hw hdi2
        have hp4 : 10 ^ (z_en T n b - z_sk T n b) ≤ 10 ^ 4 := Nat.pow_le_pow_right (by decide) u1
        have gg := q2.go hm (k := z_en T n b) (Or.inr hs2) rfl
        show z_ok ((f_Mo_isIn (Int32.toInt64 (nI (z_nv T (z_sk T n b) (z_en T n b - z_sk T n b)))) (Int32.toInt64 (nI lo)) (Int32.toInt64 (nI hi))).bind _) _
        rw [z_isG, Int32.toInt_toInt64, Int32.toInt_toInt64]
        generalize z_nv T (z_sk T n b) (z_en T n b - z_sk T n b) = v at hnf hvb
        rw [nI_toInt (by omega), nI_toInt (by omega), nI_toInt (by omega)]
        have e22 : (sI q.2 366 2 (nI (z_en T n b))).1 366 2 = nI (z_en T n b) := z_sIs _ _ _ _
        rw [e22]
        generalize hN3 : sI (sI q.2 366 2 (nI (z_en T n b))) 366 4 (nI (z_en T n b)) = N3 at gg
        have lx3 : z_LX N N3 := by rw [← hN3]; exact (q3.s (Or.inl rfl)).s (Or.inr (Or.inl rfl))
        refine z_eq rfl ?_
        by_cases c3 : (lo : Int) ≤ v ∧ (v : Int) ≤ hi
        · rw [if_pos c3]
          rw [if_neg (by omega)] at hnf
          refine z_neg z_10 (z_some ⟨lx3.s (by omega), Or.inl ⟨hnf, rfl, ?_, z_sIs _ _ _ _⟩⟩)
          obtain ⟨r1, r2, r3, r4, r5, r6, r7, r8⟩ := gg
          refine ⟨(z_sIk _ _ _ _ (by decide)).trans r1, r2, r3, (z_sIk _ _ _ _ (by decide)).trans r4, ?_, (z_sIk _ _ _ _ (by decide)).trans r6, (z_sIk _ _ _ _ (by decide)).trans r7, fun k hk => by rw [z_sIa _ _ _ _ (by decide)]; exact r8 k hk⟩
          unfold z_ed
          rw [z_sIk _ _ _ _ (by decide)]; exact r5
        · rw [if_neg c3]
          rw [if_pos (by omega)] at hnf
          refine z_pos rfl ?_
          refine z_eq (m_fail (f := 2) (p := z_sk T n b) ((z_sIk _ _ _ _ (by decide)).trans gg.2.2.2.2.2.1)) (z_some ⟨(lx3.s (by omega)).f, Or.inr ⟨2, z_sk T n b, hnf, by decide, z_MF.mk _ _⟩⟩)
      · rw [if_pos u1] at hnf
        rw [u2]
        exact ⟨(0, N2), rfl, q3.tr t1, Or.inr ⟨1, _, hnf, by decide, u3⟩⟩
    · rw [if_neg c1]
      exact no (fun q => c1 (z_so_2 q).2.1)
  · rw [if_neg c0]
    refine z_eq (r := (0 : Int32)) rfl (z_pos rfl (no (fun q => c0 (z_so_2 q).1)))
end
