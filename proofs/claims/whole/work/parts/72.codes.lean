/-! ===== pure: QUESTION's codes and waits, the reference ===== -/
def y_st (r : Nat) : List Nat → SM → Prop
  | [], _ => True
  | x :: W, N => (N.1 r W.length = nI x ∧ x < 20000) ∧ y_st r W N
def y_Y (N N' : SM) : Prop := z_Fr (fun i => i ≠ 366 ∧ i ≠ 426 ∧ i ≠ 427) N N' ∧ ∀ k, k ≠ 89 → k ≠ 91 → k ≠ 92 → k ≠ 93 → N'.1 366 k = N.1 366 k
def y_X (N N' : SM) : Prop := z_Fr (fun i => i ≠ 366 ∧ i ≠ 426 ∧ i ≠ 427) N N' ∧ ∀ k, (k ≠ 2 ∧ k ≠ 4 ∧ k ≠ 5 ∧ k ≠ 6 ∧ k ≠ 9 ∧ k ≠ 27 ∧ k ≠ 89 ∧ k ≠ 91 ∧ k ≠ 92 ∧ k ≠ 93) → N'.1 366 k = N.1 366 k
def y_M (B o : Nat) (W K : List Nat) (N : SM) : Prop := N.1 366 91 = nI W.length ∧ y_st 427 W N ∧ N.1 366 89 = nI K.length ∧ y_st 426 K N ∧ N.1 366 93 = nI B ∧ N.1 366 92 = nI o
section
variable {T : Nat → Nat} {n b a B o x : Nat} {W K Q : List Nat} {N N' N'' : SM}
theorem y_st.fr {r : Nat} : ∀ {W : List Nat}, y_st r W N → (∀ j, j < W.length → N'.1 r j = N.1 r j) → y_st r W N'
  | [], _, _ => trivial
  | x :: W, h, k => ⟨⟨(k W.length (by rw [List.length_cons]; omega)).trans h.1.1, h.1.2⟩, y_st.fr h.2 (fun j hj => k j (by rw [List.length_cons]; omega))⟩
theorem y_st.push {r : Nat} (h : y_st r W N) (hx : x < 20000) : y_st r (x :: W) (sI N r W.length (nI x)) :=
  ⟨⟨z_sIs _ _ _ _, hx⟩, h.fr (fun j hj => z_sIk _ _ _ _ (by omega))⟩
theorem y_st.ia {r i k : Nat} {v : Int32} (h : y_st r W N) (hi : r ≠ i) : y_st r W (sI N i k v) := h.fr (fun j _ => by rw [z_sIa _ _ _ _ hi])
theorem y_Y.rf : y_Y N N := ⟨z_Fr.rf, fun _ _ _ _ _ => rfl⟩
theorem y_Y.tr (h : y_Y N N') (k : y_Y N' N'') : y_Y N N'' := ⟨h.1.tr k.1, fun i a b c d => (k.2 i a b c d).trans (h.2 i a b c d)⟩
theorem y_Y.s {k : Nat} {v : Int32} (h : y_Y N N') (hk : k = 89 ∨ k = 91 ∨ k = 92 ∨ k = 93) : y_Y N (sI N' 366 k v) := ⟨h.1.sI (by omega), fun i a b c d => by rw [z_sIk _ _ _ _ (by omega)]; exact h.2 i a b c d⟩
theorem y_Y.w {r k : Nat} {v : Int32} (h : y_Y N N') (hr : r = 426 ∨ r = 427) : y_Y N (sI N' r k v) := ⟨h.1.sI (by omega), fun i a b c d => by rw [z_sIa _ _ _ _ (by omega)]; exact h.2 i a b c d⟩
theorem y_Y.yx (h : y_Y N N') : y_X N N' := ⟨h.1, fun k q => h.2 k (by omega) (by omega) (by omega) (by omega)⟩
theorem y_X.rf : y_X N N := ⟨z_Fr.rf, fun _ _ => rfl⟩
theorem y_X.tr (h : y_X N N') (k : y_X N' N'') : y_X N N'' := ⟨h.1.tr k.1, fun i q => (k.2 i q).trans (h.2 i q)⟩
theorem y_X.s {k : Nat} {v : Int32} (h : y_X N N') (hk : k = 2 ∨ k = 4 ∨ k = 5 ∨ k = 6 ∨ k = 9 ∨ k = 27 ∨ k = 89 ∨ k = 91 ∨ k = 92 ∨ k = 93) : y_X N (sI N' 366 k v) := ⟨h.1.sI (by omega), fun i q => by rw [z_sIk _ _ _ _ (by omega)]; exact h.2 i q⟩
theorem z_LX.yx (h : z_LX N N') : y_X N N' := ⟨h.1.wk (fun i q => q.1), fun k q => h.2 k (by omega)⟩
theorem z_RF.y (h : z_RF T n b a N) (k : y_Y N N') : z_RF T n b a N' := by
  obtain ⟨r1, r2, r3, r4, r5, r6, r7, r8⟩ := h
  have e : ∀ j, j < 7 → N'.1 366 j = N.1 366 j := fun j hj => k.2 j (by omega) (by omega) (by omega) (by omega)
  refine ⟨(e 2 (by decide)).trans r1, r2, r3, (e 3 (by decide)).trans r4, ?_, (e 5 (by decide)).trans r6, (e 6 (by decide)).trans r7, fun j hj => by rw [k.1.1 367 (by decide)]; exact r8 j hj⟩
  unfold z_ed
  rw [e 4 (by decide)]; exact r5
theorem z_MF.y {f p : Nat} (h : z_MF f p N) (k : y_Y N N') : z_MF f p N' := ⟨(k.2 5 (by decide) (by decide) (by decide) (by decide)).trans h.1, (k.2 6 (by decide) (by decide) (by decide) (by decide)).trans h.2⟩
theorem z_KW.yx (h : z_KW N) (k : y_X N N') : z_KW N' := h.fr (fun i i1 i2 i3 => k.1.1 i (by omega))
theorem y_M.lx (h : y_M B o W K N) (k : z_LX N N') : y_M B o W K N' := by
  obtain ⟨h1, h2, h3, h4, h5, h6⟩ := h
  exact ⟨(k.2 91 (by decide)).trans h1, h2.fr (fun j _ => by rw [k.1.1 427 (by decide)]), (k.2 89 (by decide)).trans h3, h4.fr (fun j _ => by rw [k.1.1 426 (by decide)]), (k.2 93 (by decide)).trans h5, (k.2 92 (by decide)).trans h6⟩
theorem y_M.at {v : Int32} (h : y_M B o W K N) : y_M B o W K (sI N 366 2 v) := h.lx (z_LX.rf.s (Or.inl rfl))
theorem m_codeA {v : Int32} {k : Nat} (h : N.1 366 89 = nI k) (hk : k < 1700) : z_ok (f_Mo_qCode 366 v N) (fun N' => y_Y N N') := by
  unfold f_Mo_qCode
  rw [jm_88, h, zs_426 _ hk]
  exact z_some ((y_Y.rf.w (Or.inl rfl)).s (Or.inl rfl))
theorem m_code (h : y_M B o W K N) (hK : K.length < 1700) (hx : x < 20000) : z_ok (f_Mo_qCode 366 (nI x) N) (fun N' => y_M B o W (x :: K) N' ∧ y_Y N N') := by
  obtain ⟨h1, h2, h3, h4, h5, h6⟩ := h
  unfold f_Mo_qCode
  rw [jm_88, h3, zs_426 _ hK]
  simp only [Option.bind_some]
  rw [z_sIa _ _ _ _ (by decide), h3, nI_1]
  refine z_some ⟨⟨?_, (h2.ia (by decide)).ia (by decide), z_sIs _ _ _ _, (h4.push hx).ia (by decide), ?_, ?_⟩, (y_Y.rf.w (Or.inl rfl)).s (Or.inl rfl)⟩
  · rw [z_sIk _ _ _ _ (by decide), z_sIa _ _ _ _ (by decide)]; exact h1
  · rw [z_sIk _ _ _ _ (by decide), z_sIa _ _ _ _ (by decide)]; exact h5
  · rw [z_sIk _ _ _ _ (by decide), z_sIa _ _ _ _ (by decide)]; exact h6
theorem y_M.pop (h : y_M B o (x :: W) K N) : y_M B o W K (sI N 366 91 (N.1 366 91 - 1)) ∧ N.1 366 91 - 1 = nI W.length ∧ N.1 427 W.length = nI x ∧ x < 20000 := by
  obtain ⟨h1, h2, h3, h4, h5, h6⟩ := h
  have e : N.1 366 91 - 1 = nI W.length := by rw [h1, List.length_cons, z_ls (by omega)]; rfl
  refine ⟨⟨?_, h2.2.ia (by decide), ?_, h4.ia (by decide), ?_, ?_⟩, e, h2.1.1, h2.1.2⟩
  · rw [z_sIs]; exact e
  · rw [z_sIk _ _ _ _ (by decide)]; exact h3
  · rw [z_sIk _ _ _ _ (by decide)]; exact h5
  · rw [z_sIk _ _ _ _ (by decide)]; exact h6
theorem m_top (h : y_M B o (x :: W) K N) (hW : W.length < 1700) : aI N 427 (N.1 366 91 - 1) = some (nI x) := by
  obtain ⟨_, e, f, _⟩ := h.pop
  rw [e, zi_427 _ hW, f]
theorem m_drop (h : y_M B o (x :: W) K N) (hl : W.length + K.length < 1700) : z_ok (f_Mo_qDrops 366 N) (fun N' => y_M B o W (x :: K) N' ∧ y_Y N N') := by
  obtain ⟨p1, e, f, hx⟩ := h.pop
  unfold f_Mo_qDrops
  rw [jm_90, z_sIs, e, zi_427 _ (by omega), z_sIa _ _ _ _ (by decide), f]
  rw [e] at p1
  simp only [Option.bind_some]
  refine z_bind (m_code p1 (by omega) hx) (fun N' k => z_some ⟨k.1, (y_Y.rf.s (by decide)).tr k.2⟩)
theorem y_M.oo (h : y_M B (o + 1) W K N) : y_M B o W K (sI N 366 92 (N.1 366 92 - 1)) := by
  obtain ⟨h1, h2, h3, h4, h5, h6⟩ := h
  refine ⟨?_, h2.ia (by decide), ?_, h4.ia (by decide), ?_, ?_⟩
  · rw [z_sIk _ _ _ _ (by decide)]; exact h1
  · rw [z_sIk _ _ _ _ (by decide)]; exact h3
  · rw [z_sIk _ _ _ _ (by decide)]; exact h5
  · rw [z_sIs, h6, z_ls (by omega)]; rfl
theorem m_push (h : y_M B o W K N) (hW : W.length < 1700) (hx : x < 20000) : ∃ N1, aS N 427 (N.1 366 91) (nI x) = some N1 ∧ y_M B o (x :: W) K (sI N1 366 91 (N1.1 366 91 + 1)) ∧ y_Y N (sI N1 366 91 (N1.1 366 91 + 1)) := by
  obtain ⟨h1, h2, h3, h4, h5, h6⟩ := h
  refine ⟨_, by rw [h1, zs_427 _ hW], ⟨?_, (h2.push hx).ia (by decide), ?_, (h4.ia (by decide)).ia (by decide), ?_, ?_⟩, (y_Y.rf.w (Or.inr rfl)).s (by decide)⟩
  · rw [z_sIs, z_sIa _ _ _ _ (by decide), h1, nI_1]; rfl
  · rw [z_sIk _ _ _ _ (by decide), z_sIa _ _ _ _ (by decide)]; exact h3
  · rw [z_sIk _ _ _ _ (by decide), z_sIa _ _ _ _ (by decide)]; exact h5
  · rw [z_sIk _ _ _ _ (by decide), z_sIa _ _ _ _ (by decide)]; exact h6
/-- the top is another -/
theorem m_swap {y : Nat} (h : y_M B o (x :: W) K N) (hW : W.length < 1700) (hy : y < 20000) : ∃ N1, aS N 427 (N.1 366 91 - 1) (nI y) = some N1 ∧ y_M B o (y :: W) K N1 ∧ y_Y N N1 := by
  obtain ⟨p1, e, f, hx⟩ := h.pop
  obtain ⟨h1, h2, h3, h4, h5, h6⟩ := h
  refine ⟨_, by rw [e, zs_427 _ hW], ⟨?_, h2.2.push hy, ?_, h4.ia (by decide), ?_, ?_⟩, y_Y.rf.w (Or.inr rfl)⟩
  · rw [z_sIa _ _ _ _ (by decide)]; exact h1
  · rw [z_sIa _ _ _ _ (by decide)]; exact h3
  · rw [z_sIa _ _ _ _ (by decide)]; exact h5
  · rw [z_sIa _ _ _ _ (by decide)]; exact h6
theorem m_isOn {c : Nat} (h : y_M B o W K N) (hW : W.length ≤ 1700) (hc : c < 20000) : f_Mo_qIsOn 366 (nI c) N = some (if W.head? = some c then 1 else 0) := by
  unfold f_Mo_qIsOn
  cases W with
  | nil => rw [h.1]; rfl
  | cons x W =>
    have hx := h.2.1.1.2
    rw [List.length_cons] at hW
    rw [h.1, if_pos (show (0 : Int32) < nI (x :: W).length from nI_lt (a := 0) (by rw [List.length_cons]; omega) (by rw [List.length_cons]; omega)), ← h.1, jm_90, m_top h (by omega)]
    simp only [Option.bind_some]
    by_cases e : x = c
    · subst e; rw [if_pos rfl, if_pos (show (x :: W).head? = some x from rfl)]
    · rw [if_neg (fun q => e ((nI_eq (by omega) (by omega)).mp q)), if_neg (fun (q : (x :: W).head? = some c) => e (Option.some.inj q))]
theorem m_opens {p : Nat} (h : y_M B o W K N) (h5 : N.1 366 5 = 0) (hW : W.length < 1700) (hx : x < 20000) (ho : o ≤ 6) : ∃ N', f_Mo_qOpens 366 (nI x) (nI p) N = some N' ∧ ((o < 6 ∧ y_M B (o + 1) (x :: W) K N' ∧ y_Y N N') ∨ (o = 6 ∧ N' = sI (sI N 366 5 (nI 4)) 366 6 (nI p))) := by
  unfold f_Mo_qOpens
  rw [if_pos h5, h.2.2.2.2.2]
  by_cases c : o = 6
  · subst c
    rw [if_pos (show nI 6 = 6 from rfl), zl_4, m_fail h5]
    exact ⟨_, rfl, Or.inr ⟨rfl, rfl⟩⟩
  · rw [if_neg (fun (q : nI o = 6) => c ((nI_eq (b := 6) (by omega) (by decide)).mp q)), nI_1]
    have hM : y_M B (o + 1) W K (sI N 366 92 (nI (o + 1))) := by
      obtain ⟨h1, h2, h3, h4, h5, h6⟩ := h
      refine ⟨?_, h2.ia (by decide), ?_, h4.ia (by decide), ?_, z_sIs _ _ _ _⟩
      · rw [z_sIk _ _ _ _ (by decide)]; exact h1
      · rw [z_sIk _ _ _ _ (by decide)]; exact h3
      · rw [z_sIk _ _ _ _ (by decide)]; exact h5
    obtain ⟨N1, e1, e2, e3⟩ := m_push hM hW hx
    rw [jm_90, e1]
    exact ⟨_, rfl, Or.inl ⟨by omega, e2, (y_Y.rf.s (by decide)).tr e3⟩⟩
/-- what waits is told, as long as it goes on so -/
theorem y_drops {L : Nat → SM → Option SM} {p : Nat → Prop} (hs : ∀ m x Q K N, p x → y_M B o (x :: (Q ++ W)) K N → N.1 366 5 = 0 → Q.length + W.length + K.length < 1700 → L (m + 1) N = (f_Mo_qDrops 366 N).bind (L m)) (he : ∀ m K N, y_M B o W K N → N.1 366 5 = 0 → W.length + K.length ≤ 1700 → L (m + 1) N = some N) :
    ∀ {Q K : List Nat} {N : SM} {m : Nat}, (∀ x, x ∈ Q → p x) → y_M B o (Q ++ W) K N → N.1 366 5 = 0 → Q.length + W.length + K.length ≤ 1700 → Q.length < m → z_ok (L m N) (fun N' => y_M B o W (Q.reverse ++ K) N' ∧ y_Y N N')
  | [], K, N, m, _, h, h5, hl, hm => by
    obtain ⟨m, rfl⟩ : ∃ m', m = m' + 1 := ⟨m - 1, by omega⟩
    rw [he m K N h h5 (by rw [List.length_nil] at hl; omega)]
    exact z_some ⟨h, y_Y.rf⟩
  | x :: Q, K, N, m, hp, h, h5, hl, hm => by
    rw [List.length_cons] at hl hm
    obtain ⟨m, rfl⟩ : ∃ m', m = m' + 1 := ⟨m - 1, by omega⟩
    rw [hs m x Q K N (hp x (List.mem_cons_self ..)) h h5 (by omega)]
    refine z_bind (m_drop (show y_M B o (x :: (Q ++ W)) K N from h) (by rw [List.length_append]; omega)) (fun N1 k => ?_)
    refine z_mono (y_drops hs he (m := m) (fun y hy => hp y (List.mem_cons_of_mem _ hy)) k.1 ((k.2.2 5 (by decide) (by decide) (by decide) (by decide)).trans h5) (by rw [List.length_cons]; omega) (by omega)) (fun N2 g => ⟨?_, k.2.tr g.2⟩)
    rw [List.reverse_cons, List.append_assoc]; exact g.1
/-- and what was opened with it -/
theorem y_dropsO {L : Nat → SM → Option SM} {p : Nat → Prop} (hs : ∀ m o x Q K N, p x → y_M B o (x :: (Q ++ W)) K N → N.1 366 5 = 0 → Q.length + W.length + K.length < 1700 → L (m + 1) N = (f_Mo_qDrops 366 (sI N 366 92 (N.1 366 92 - 1))).bind (L m)) (he : ∀ m o K N, y_M B o W K N → N.1 366 5 = 0 → W.length + K.length ≤ 1700 → L (m + 1) N = some N) :
    ∀ {Q K : List Nat} {N : SM} {m : Nat}, (∀ x, x ∈ Q → p x) → y_M B (o + Q.length) (Q ++ W) K N → N.1 366 5 = 0 → Q.length + W.length + K.length ≤ 1700 → Q.length < m → z_ok (L m N) (fun N' => y_M B o W (Q.reverse ++ K) N' ∧ y_Y N N')
  | [], K, N, m, _, h, h5, hl, hm => by
    obtain ⟨m, rfl⟩ : ∃ m', m = m' + 1 := ⟨m - 1, by omega⟩
    rw [he m _ K N h h5 (by rw [List.length_nil] at hl; omega)]
    exact z_some ⟨h, y_Y.rf⟩
  | x :: Q, K, N, m, hp, h, h5, hl, hm => by
    rw [List.length_cons] at hl hm
    obtain ⟨m, rfl⟩ : ∃ m', m = m' + 1 := ⟨m - 1, by omega⟩
    rw [hs m _ x Q K N (hp x (List.mem_cons_self ..)) h h5 (by omega)]
    have h' : y_M B (o + Q.length) (x :: (Q ++ W)) K (sI N 366 92 (N.1 366 92 - 1)) := y_M.oo (by rw [List.length_cons] at h; exact h)
    refine z_bind (m_drop h' (by rw [List.length_append]; omega)) (fun N1 k => ?_)
    refine z_mono (y_dropsO hs he (m := m) (fun y hy => hp y (List.mem_cons_of_mem _ hy)) k.1 ((k.2.2 5 (by decide) (by decide) (by decide) (by decide)).trans (by rw [z_sIk _ _ _ _ (by decide)]; exact h5)) (by rw [List.length_cons]; omega) (by omega)) (fun N2 g => ⟨?_, ((y_Y.rf.s (by decide)).tr k.2).tr g.2⟩)
    rw [List.reverse_cons, List.append_assoc]; exact g.1
/-! the loops -/
def y_nh (p : Nat → Prop) (W : List Nat) : Prop := ∀ x, W.head? = some x → ¬ p x
def y_mu (x : Nat) : Prop := x = 3 ∨ x = 4
def y_su (x : Nat) : Prop := x = 1 ∨ x = 2 ∨ x = 3 ∨ x = 4
abbrev y_br (x : Nat) : Prop := 20 ≤ x ∧ x ≤ 24
theorem m_isOn1 {c : Nat} (h : y_M B o (x :: W) K N) (hW : W.length < 1700) (hc : c < 20000) : f_Mo_qIsOn 366 (nI c) N = some (if x = c then 1 else 0) := by
  rw [m_isOn h (by rw [List.length_cons]; omega) hc]
  by_cases e : x = c
  · rw [if_pos e, if_pos (show (x :: W).head? = some c from congrArg some e)]
  · rw [if_neg e, if_neg (fun (q : (x :: W).head? = some c) => e (Option.some.inj q))]
theorem m_isOn0 {p : Nat → Prop} {c : Nat} (hp : y_nh p W) (h : y_M B o W K N) (hW : W.length ≤ 1700) (hc : c < 20000) (pc : p c) : f_Mo_qIsOn 366 (nI c) N = some 0 := by
  rw [m_isOn h hW hc, if_neg (fun e => hp c e pc)]
theorem m_muls (hW : y_nh y_mu W) {m : Nat} (h1 : ∀ x, x ∈ Q → y_mu x) (h2 : y_M B o (Q ++ W) K N) (h3 : N.1 366 5 = 0) (h4 : Q.length + W.length + K.length ≤ 1700) (h5 : Q.length < m) : z_ok (lp_Mo_qGoesOn_162 366 m N) (fun N' => y_M B o W (Q.reverse ++ K) N' ∧ y_Y N N') := by
  refine y_drops (L := fun m N => lp_Mo_qGoesOn_162 366 m N) (p := fun x => y_mu x) (fun m x Q' K' N' px hM h5 hl => ?_) (fun m K' N' hM h5 hl => ?_) h1 h2 h3 h4 h5
  · show lp_Mo_qGoesOn_162 366 (m + 1) N' = _
    have hl1 : (Q' ++ W).length < 1700 := by rw [List.length_append]; omega
    rw [lp_Mo_qGoesOn_162, zl_3, zl_4, m_isOn1 hM hl1 (by decide), m_isOn1 hM hl1 (by decide)]
    simp only [Option.bind_some]
    rcases px with rfl | rfl <;> rfl
  · show lp_Mo_qGoesOn_162 366 (m + 1) N' = _
    rw [lp_Mo_qGoesOn_162, zl_3, zl_4, m_isOn0 hW hM (by omega) (by decide) (Or.inl rfl), m_isOn0 hW hM (by omega) (by decide) (Or.inr rfl)]
    rfl
theorem m_sums (hW : y_nh y_su W) {m : Nat} (h1 : ∀ x, x ∈ Q → y_su x) (h2 : y_M B o (Q ++ W) K N) (h3 : N.1 366 5 = 0) (h4 : Q.length + W.length + K.length ≤ 1700) (h5 : Q.length < m) : z_ok (lp_Mo_qGoesOn_247 366 m N) (fun N' => y_M B o W (Q.reverse ++ K) N' ∧ y_Y N N') := by
  refine y_drops (L := fun m N => lp_Mo_qGoesOn_247 366 m N) (p := fun x => y_su x) (fun m x Q' K' N' px hM h5 hl => ?_) (fun m K' N' hM h5 hl => ?_) h1 h2 h3 h4 h5
  · show lp_Mo_qGoesOn_247 366 (m + 1) N' = _
    have hl1 : (Q' ++ W).length < 1700 := by rw [List.length_append]; omega
    rw [lp_Mo_qGoesOn_247, zl_3, zl_4, zl_1, zl_2, m_isOn1 hM hl1 (by decide), m_isOn1 hM hl1 (by decide), m_isOn1 hM hl1 (by decide), m_isOn1 hM hl1 (by decide)]
    simp only [Option.bind_some]
    rcases px with rfl | rfl | rfl | rfl <;> rfl
  · show lp_Mo_qGoesOn_247 366 (m + 1) N' = _
    rw [lp_Mo_qGoesOn_247, zl_3, zl_4, zl_1, zl_2, m_isOn0 hW hM (by omega) (by decide) (Or.inr (Or.inr (Or.inl rfl))), m_isOn0 hW hM (by omega) (by decide) (Or.inr (Or.inr (Or.inr rfl))), m_isOn0 hW hM (by omega) (by decide) (Or.inl rfl), m_isOn0 hW hM (by omega) (by decide) (Or.inr (Or.inl rfl))]
    rfl
theorem m_ands (hW : y_nh (fun x => x = 10) W) {m : Nat} (h1 : ∀ x, x ∈ Q → x = 10) (h2 : y_M B o (Q ++ W) K N) (h3 : N.1 366 5 = 0) (h4 : Q.length + W.length + K.length ≤ 1700) (h5 : Q.length < m) : z_ok (lp_Mo_qGoesOnTest_87 366 m N) (fun N' => y_M B o W (Q.reverse ++ K) N' ∧ y_Y N N') := by
  refine y_drops (L := fun m N => lp_Mo_qGoesOnTest_87 366 m N) (p := fun x => x = 10) (fun m x Q' K' N' px hM h5 hl => ?_) (fun m K' N' hM h5 hl => ?_) h1 h2 h3 h4 h5
  · show lp_Mo_qGoesOnTest_87 366 (m + 1) N' = _
    have hl1 : (Q' ++ W).length < 1700 := by rw [List.length_append]; omega
    rw [lp_Mo_qGoesOnTest_87, zl_10, m_isOn1 hM hl1 (by decide), if_pos px]
    rfl
  · show lp_Mo_qGoesOnTest_87 366 (m + 1) N' = _
    rw [lp_Mo_qGoesOnTest_87, zl_10, m_isOn0 hW hM (by omega) (by decide) rfl]
    rfl
theorem m_ors (hW : y_nh (fun x => x = 10 ∨ x = 11) W) {m : Nat} (h1 : ∀ x, x ∈ Q → x = 10 ∨ x = 11) (h2 : y_M B o (Q ++ W) K N) (h3 : N.1 366 5 = 0) (h4 : Q.length + W.length + K.length ≤ 1700) (h5 : Q.length < m) : z_ok (lp_Mo_qGoesOnTest_137 366 m N) (fun N' => y_M B o W (Q.reverse ++ K) N' ∧ y_Y N N') := by
  refine y_drops (L := fun m N => lp_Mo_qGoesOnTest_137 366 m N) (p := fun x => x = 10 ∨ x = 11) (fun m x Q' K' N' px hM h5 hl => ?_) (fun m K' N' hM h5 hl => ?_) h1 h2 h3 h4 h5
  · show lp_Mo_qGoesOnTest_137 366 (m + 1) N' = _
    have hl1 : (Q' ++ W).length < 1700 := by rw [List.length_append]; omega
    rw [lp_Mo_qGoesOnTest_137, zl_10, show (11 : Int32) = nI 11 from rfl, m_isOn1 hM hl1 (by decide), m_isOn1 hM hl1 (by decide)]
    simp only [Option.bind_some]
    rcases px with rfl | rfl <;> rfl
  · show lp_Mo_qGoesOnTest_137 366 (m + 1) N' = _
    rw [lp_Mo_qGoesOnTest_137, zl_10, show (11 : Int32) = nI 11 from rfl, m_isOn0 hW hM (by omega) (by decide) (Or.inl rfl), m_isOn0 hW hM (by omega) (by decide) (Or.inr rfl)]
    rfl
theorem m_toSq (hW : W.head? = some 25) {m : Nat} (h1 : ∀ x, x ∈ Q → x ≠ 25) (h2 : y_M B o (Q ++ W) K N) (h3 : N.1 366 5 = 0) (h4 : Q.length + W.length + K.length ≤ 1700) (h5 : Q.length < m) : z_ok (lp_Mo_qGoesOnTest_33 366 m N) (fun N' => y_M B o W (Q.reverse ++ K) N' ∧ y_Y N N') := by
  refine y_drops (L := fun m N => lp_Mo_qGoesOnTest_33 366 m N) (p := fun x => x ≠ 25) (fun m x Q' K' N' px hM h5 hl => ?_) (fun m K' N' hM h5 hl => ?_) h1 h2 h3 h4 h5
  · show lp_Mo_qGoesOnTest_33 366 (m + 1) N' = _
    have hl1 : (Q' ++ W).length < 1700 := by rw [List.length_append]; omega
    rw [lp_Mo_qGoesOnTest_33, show (25 : Int32) = nI 25 from rfl, m_isOn1 hM hl1 (by decide), if_neg px]
    rfl
  · show lp_Mo_qGoesOnTest_33 366 (m + 1) N' = _
    rw [lp_Mo_qGoesOnTest_33, show (25 : Int32) = nI 25 from rfl, m_isOn hM (by omega) (by decide), if_pos hW]
    rfl
theorem m_fin {m : Nat} (h2 : y_M B o Q K N) (h3 : N.1 366 5 = 0) (h4 : Q.length + K.length ≤ 1700) (h5 : Q.length < m) : z_ok (lp_Mo_qTest_110 366 m N) (fun N' => y_M B o [] (Q.reverse ++ K) N' ∧ y_Y N N') := by
  refine y_drops (W := []) (L := fun m N => lp_Mo_qTest_110 366 m N) (p := fun x => True) (fun m x Q' K' N' px hM h5 hl => ?_) (fun m K' N' hM h5 hl => ?_) (fun _ _ => trivial) (by rw [List.append_nil]; exact h2) h3 (by rw [List.length_nil]; omega) h5
  · show lp_Mo_qTest_110 366 (m + 1) N' = _
    rw [lp_Mo_qTest_110, if_pos h5, hM.1, if_pos (show (0 : Int32) < nI (x :: (Q' ++ [])).length from nI_lt (a := 0) (by rw [List.length_cons]; omega) (by rw [List.length_cons, List.length_append, List.length_nil]; omega))]
  · show lp_Mo_qTest_110 366 (m + 1) N' = _
    rw [lp_Mo_qTest_110, if_pos h5, hM.1, if_neg (by decide)]
theorem m_base {m : Nat} (hB : W.length = B) (h2 : y_M B o (Q ++ W) K N) (h3 : N.1 366 5 = 0) (h4 : Q.length + W.length + K.length ≤ 1700) (h5 : Q.length < m) : z_ok (lp_Mo_qSums_53 366 m N) (fun N' => y_M B o W (Q.reverse ++ K) N' ∧ y_Y N N') := by
  refine y_drops (L := fun m N => lp_Mo_qSums_53 366 m N) (p := fun x => True) (fun m x Q' K' N' px hM h5 hl => ?_) (fun m K' N' hM h5 hl => ?_) (fun _ _ => trivial) h2 h3 h4 h5
  · show lp_Mo_qSums_53 366 (m + 1) N' = _
    rw [lp_Mo_qSums_53, if_pos h5, hM.1, hM.2.2.2.2.1, if_pos (nI_lt (by rw [List.length_cons, List.length_append]; omega) (by rw [List.length_cons, List.length_append]; omega))]
  · show lp_Mo_qSums_53 366 (m + 1) N' = _
    rw [lp_Mo_qSums_53, if_pos h5, hM.1, hM.2.2.2.2.1, if_neg (nI_nlt (by omega) (by omega))]
theorem m_isBr (x : Nat) (hx : x < 20000) : f_Mo_qIsBracket (nI x) = some (if y_br x then 1 else 0) := by
  unfold f_Mo_qIsBracket y_br
  rw [zl_20, zl_24]
  by_cases c : x < 20
  · rw [if_pos (nI_lt c (by decide)), if_neg (by omega)]
  · rw [if_neg (nI_nlt (by omega) (by omega))]
    by_cases d : 24 < x
    · rw [if_pos (nI_lt d (by omega)), if_neg (by omega)]
    · rw [if_neg (nI_nlt (by omega) (by omega)), if_pos (by omega)]
theorem m_toBr (hW : (∃ x W', W = x :: W' ∧ y_br x ∧ B ≤ W'.length)) {m : Nat} (h1 : ∀ x, x ∈ Q → ¬ y_br x) (h2 : y_M B o (Q ++ W) K N) (h3 : N.1 366 5 = 0) (h4 : Q.length + W.length + K.length ≤ 1700) (h5 : Q.length < m) : z_ok (lp_Mo_qDropsToBracket_0 366 m N) (fun N' => y_M B o W (Q.reverse ++ K) N' ∧ y_Y N N') := by
  obtain ⟨y, W', rfl, hy, hB⟩ := hW
  refine y_drops (L := fun m N => lp_Mo_qDropsToBracket_0 366 m N) (p := fun x => ¬ y_br x) (fun m x Q' K' N' px hM h5 hl => ?_) (fun m K' N' hM h5 hl => ?_) h1 h2 h3 h4 h5
  · show lp_Mo_qDropsToBracket_0 366 (m + 1) N' = _
    have hl1 : (Q' ++ y :: W').length < 1700 := by rw [List.length_append]; omega
    rw [lp_Mo_qDropsToBracket_0, hM.2.2.2.2.1, if_pos (by rw [hM.1]; exact nI_lt (by rw [List.length_cons, List.length_append, List.length_cons]; omega) (by rw [List.length_cons]; omega)), jm_90, m_top hM hl1]
    simp only [Option.bind_some]
    rw [m_isBr _ hM.2.1.1.2, if_neg px]
    rfl
  · show lp_Mo_qDropsToBracket_0 366 (m + 1) N' = _
    rw [List.length_cons] at hl
    rw [lp_Mo_qDropsToBracket_0, hM.2.2.2.2.1, if_pos (by rw [hM.1]; exact nI_lt (by rw [List.length_cons]; omega) (by rw [List.length_cons]; omega)), jm_90, m_top hM (by omega)]
    simp only [Option.bind_some]
    rw [m_isBr _ hM.2.1.1.2, if_pos hy]
    rfl
/-- no word waits for a part -/
def y_tp (B : Nat) (W : List Nat) : Prop := W.length = B ∨ (B < W.length ∧ y_nh (fun x => 60 ≤ x) W)
theorem m_ends (hW : y_tp B W) {m : Nat} (h1 : ∀ x, x ∈ Q → 60 ≤ x) (h2 : y_M B (o + Q.length) (Q ++ W) K N) (h3 : N.1 366 5 = 0) (h4 : Q.length + W.length + K.length ≤ 1700) (h5 : Q.length < m) : z_ok (lp_Mo_qEndsPart_0 366 m N) (fun N' => y_M B o W (Q.reverse ++ K) N' ∧ y_Y N N') := by
  have hB : B ≤ W.length := by rcases hW with h | h <;> omega
  refine y_dropsO (L := fun m N => lp_Mo_qEndsPart_0 366 m N) (p := fun x => 60 ≤ x) (fun m o x Q' K' N' px hM h5 hl => ?_) (fun m o K' N' hM h5 hl => ?_) h1 h2 h3 h4 h5
  · show lp_Mo_qEndsPart_0 366 (m + 1) N' = _
    have hl1 : (Q' ++ W).length < 1700 := by rw [List.length_append]; omega
    rw [lp_Mo_qEndsPart_0, if_pos h5, hM.2.2.2.2.1, if_pos (by rw [hM.1]; exact nI_lt (by rw [List.length_cons, List.length_append]; omega) (by rw [List.length_cons]; omega)), jm_90, m_top hM hl1]
    have hx := hM.2.1.1.2
    simp only [Option.bind_some]
    rw [zl_60, if_neg (nI_nlt px (by omega))]
  · show lp_Mo_qEndsPart_0 366 (m + 1) N' = _
    rw [lp_Mo_qEndsPart_0, if_pos h5, hM.2.2.2.2.1]
    rcases hW with q | ⟨q1, q2⟩
    · rw [hM.1, if_neg (nI_nlt (by omega) (by omega))]
    · cases W with
      | nil => rw [List.length_nil] at q1; omega
      | cons x W =>
        have hx := hM.2.1.1.2
        have := q2 x rfl
        rw [List.length_cons] at hl
        rw [if_pos (by rw [hM.1]; exact nI_lt q1 (by rw [List.length_cons]; omega)), jm_90, m_top hM (by omega)]
        simp only [Option.bind_some]
        rw [zl_60, if_pos (nI_lt (by omega) (by decide))]
theorem m_nots (hW : y_nh (fun x => x = 12) W) {m : Nat} (h1 : ∀ x, x ∈ Q → x = 12) (h2 : y_M B (o + Q.length) (Q ++ W) K N) (h3 : N.1 366 5 = 0) (h4 : Q.length + W.length + K.length ≤ 1700) (h5 : Q.length < m) : z_ok (lp_Mo_qDropsNots_0 366 m N) (fun N' => y_M B o W (Q.reverse ++ K) N' ∧ y_Y N N') := by
  refine y_dropsO (L := fun m N => lp_Mo_qDropsNots_0 366 m N) (p := fun x => x = 12) (fun m o x Q' K' N' px hM h5 hl => ?_) (fun m o K' N' hM h5 hl => ?_) h1 h2 h3 h4 h5
  · show lp_Mo_qDropsNots_0 366 (m + 1) N' = _
    have hl1 : (Q' ++ W).length < 1700 := by rw [List.length_append]; omega
    rw [lp_Mo_qDropsNots_0, if_pos h5, zl_12, m_isOn1 hM hl1 (by decide), if_pos px]
    rfl
  · show lp_Mo_qDropsNots_0 366 (m + 1) N' = _
    rw [lp_Mo_qDropsNots_0, if_pos h5, zl_12, m_isOn0 hW hM (by omega) (by decide) rfl]
    rfl
/-- what is open last -/
theorem m_brL : ∀ {Q : List Nat} {m : Nat}, (∀ x, x ∈ Q → ¬ y_br x) → y_st 427 (Q ++ W) N → N.1 366 93 = nI B → Q.length + W.length ≤ 1700 → B ≤ W.length → lp_Mo_qBracket_7 366 N (m + Q.length) (nI (Q.length + W.length) - 1) = lp_Mo_qBracket_7 366 N m (nI W.length - 1)
  | [], m, _, _, _, _, _ => by rw [List.length_nil, Nat.zero_add]; rfl
  | x :: Q, m, hp, hs, hB, hl, hb => by
    rw [List.length_cons] at hl ⊢
    rw [show m + (Q.length + 1) = m + Q.length + 1 by omega, show Q.length + 1 + W.length = Q.length + W.length + 1 by omega, z_ls (by omega), Nat.add_sub_cancel, lp_Mo_qBracket_7, hB, if_neg (nI_nlt (by omega) (by omega)), jm_90, zi_427 _ (by omega)]
    have h1 : N.1 427 (Q ++ W).length = nI x ∧ x < 20000 := hs.1
    rw [List.length_append] at h1
    simp only [Option.bind_some]
    rw [h1.1, m_isBr _ h1.2, if_neg (hp x (List.mem_cons_self ..))]
    simp only [Option.bind_some]
    rw [if_pos trivial, ← Int32.sub_eq_add_neg]
    exact m_brL (fun y hy => hp y (List.mem_cons_of_mem _ hy)) hs.2 hB (by omega) hb
theorem m_br0 (hB : W.length = B) (h1 : ∀ x, x ∈ Q → ¬ y_br x) (h2 : y_M B o (Q ++ W) K N) (hl : Q.length + W.length ≤ 1700) : f_Mo_qBracket 366 N = some (-1) := by
  obtain ⟨m, hm⟩ : ∃ m, jfuel = m + 1 + Q.length := ⟨jfuel - 1 - Q.length, by rw [z_jf]; omega⟩
  unfold f_Mo_qBracket
  have lt : nI W.length - 1 < nI B := by
    rw [hB]
    by_cases c : B = 0
    · subst c; decide
    · rw [z_ls (by omega)]; exact nI_lt (by omega) (by omega)
  rw [h2.1, List.length_append, hm, m_brL h1 h2.2.1 h2.2.2.2.2.1 hl (by omega), lp_Mo_qBracket_7, h2.2.2.2.2.1, if_pos lt]
  simp only [Option.bind_some]
  rw [if_pos lt]
theorem m_br1 {y : Nat} {W' : List Nat} (hW : W = y :: W') (hy : y_br y) (hB : B ≤ W'.length) (h1 : ∀ x, x ∈ Q → ¬ y_br x) (h2 : y_M B o (Q ++ W) K N) (hl : Q.length + W.length ≤ 1700) : f_Mo_qBracket 366 N = some (nI y) := by
  obtain ⟨m, hm⟩ : ∃ m, jfuel = m + 1 + Q.length := ⟨jfuel - 1 - Q.length, by rw [z_jf]; omega⟩
  subst hW
  have hst : y_st 427 (y :: W') N := by
    have : ∀ {Q : List Nat}, y_st 427 (Q ++ y :: W') N → y_st 427 (y :: W') N := fun {Q} => by
      induction Q with
      | nil => exact id
      | cons x Q ih => exact fun h => ih h.2
    exact this h2.2.1
  unfold f_Mo_qBracket
  rw [List.length_cons] at hl
  have e : nI (y :: W').length - 1 = nI W'.length := by rw [List.length_cons, z_ls (by omega)]; rfl
  rw [h2.1, List.length_append, hm, m_brL h1 h2.2.1 h2.2.2.2.2.1 (by rw [List.length_cons]; omega) (by rw [List.length_cons]; omega), e, lp_Mo_qBracket_7, h2.2.2.2.2.1, if_neg (nI_nlt hB (by omega)), jm_90, zi_427 _ (by omega), hst.1.1]
  simp only [Option.bind_some]
  rw [m_isBr _ hst.1.2, if_pos hy]
  simp only [Option.bind_some]
  rw [if_neg z_10]
  simp only [Option.bind_some]
  rw [if_neg (nI_nlt hB (by omega)), zi_427 _ (by omega), hst.1.1]
  rfl
end
