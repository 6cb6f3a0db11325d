/-! ===== pure: the words, NAMES ===== -/
/-- the reference's words: field, letters -/
def z_wl : List (Nat × List Nat) := [(10, [114, 105, 118, 101, 114]), (11, [98, 101, 100]), (12, [97, 116]), (13, [119, 97, 116, 101, 114]), (14, [100, 101, 115, 107]), (15, [97, 114, 109, 115]), (16, [112, 108, 97, 121, 115]), (17, [112, 105, 116]), (18, [115, 108, 117, 105, 99, 101]), (19, [109, 105, 108, 108]), (20, [110, 101, 101, 100, 115]), (21, [98, 111, 97, 116]), (22, [100, 114, 97, 102, 116]), (23, [99, 108, 97, 113, 117, 101]), (24, [100, 114, 105, 110, 107, 115]), (25, [98, 97, 110, 107]), (26, [116, 105, 109, 101, 115]), (68, [102, 105, 114, 115, 116]), (69, [108, 97, 115, 116]), (70, [111, 102, 116, 101, 110]), (71, [116, 111, 116, 97, 108]), (72, [109, 111, 115, 116]), (73, [108, 101, 97, 115, 116]), (74, [110, 111, 116]), (75, [97, 110, 100]), (76, [111, 114]), (77, [97, 108, 108]), (78, [109, 105, 110]), (79, [109, 97, 120]), (80, [98, 97, 114]), (81, [99, 97, 109, 101]), (82, [111, 117, 116]), (83, [100, 114, 117, 110, 107]), (84, [115, 112, 105, 108, 116]), (85, [116, 114, 105, 108, 108, 115]), (86, [100, 101, 101, 112]), (87, [98, 111, 97, 116])]
def z_OW : List (List Nat) := [[114, 105, 118, 101, 114], [98, 101, 100], [97, 116], [119, 97, 116, 101, 114], [100, 101, 115, 107], [97, 114, 109, 115], [112, 108, 97, 121, 115], [112, 105, 116], [115, 108, 117, 105, 99, 101], [109, 105, 108, 108], [110, 101, 101, 100, 115], [98, 111, 97, 116], [100, 114, 97, 102, 116], [99, 108, 97, 113, 117, 101], [100, 114, 105, 110, 107, 115], [98, 97, 110, 107], [116, 105, 109, 101, 115]]
theorem z_wl_s : ∀ p, p ∈ z_wl → jln (jpf 366 p.1) = p.2.length ∧ p.2.length ≤ 12 ∧ (∀ i, i < p.2.length → p.2.getD i 0 < 256) ∧ jpf 366 p.1 ≠ 366 ∧ 368 ≤ jpf 366 p.1 ∧ jpf 366 p.1 < 426 ∧ (jpf 366 p.1 < 385 ∨ 406 ≤ jpf 366 p.1) := by decide +kernel
def z_KW (N : SM) : Prop := ∀ p, p ∈ z_wl → ∀ i, i < p.2.length → N.1 (jpf 366 p.1) i = nI (p.2.getD i 0)
theorem z_KW.fr {N N' : SM} (h : z_KW N) (k : ∀ i, 368 ≤ i → i < 426 → (i < 385 ∨ 406 ≤ i) → N'.1 i = N.1 i) : z_KW N' := fun p hp i hi => by
  have s := (z_wl_s p hp).2.2.2.2
  rw [k _ s.1 s.2.1 s.2.2]
  exact h p hp i hi
theorem z_KW.lx {N N' : SM} (h : z_KW N) (k : z_LX N N') : z_KW N' := h.fr (fun i i1 i2 i3 => k.1.1 i (by omega))
theorem z_KW.px {N N' : SM} (h : z_KW N) (k : z_PX N N') : z_KW N' := h.fr (fun i i1 i2 i3 => k.1.1 i (by omega))
theorem z_KW.kt {N : SM} (h : z_KW N) : z_KT N := fun i hi => h (26, zw_times) (by decide) i hi
def z_hs : List Nat → SM → Option (Int32 × SM)
  | [], N => some (0, N)
  | f :: fs, N => (f_Mo_isHere 366 (jpf 366 f) N).bind fun q => if q.1 = 0 then z_hs fs q.2 else some (1, q.2)
def z_anyw (T : Nat → Nat) (n b : Nat) (ws : List (List Nat)) : Prop := ∃ w, w ∈ ws ∧ z_is T n b w
section
variable {T : Nat → Nat} {n b a : Nat} {M N : SM}
theorem m_hs (hw : z_wt n T) (hm : z_mb T n b) : ∀ (ps : List (Nat × List Nat)), (∀ p, p ∈ ps → p ∈ z_wl) → ∀ {a : Nat} {N : SM}, z_RF T n b a N → z_KW N →
    z_ok (z_hs (ps.map (·.1)) N) (fun q => z_LX N q.2 ∧ (∃ a', z_RF T n b a' q.2 ∧ (a = z_sk T n b → a' = z_sk T n b)) ∧ ((z_anyw T n b (ps.map (·.2)) ∧ q.1 = 1) ∨ (¬ z_anyw T n b (ps.map (·.2)) ∧ q.1 = 0)))
  | [], _, a, N, h, _ => z_some ⟨z_LX.rf, ⟨a, h, id⟩, Or.inr ⟨fun ⟨w, hw, _⟩ => (nomatch hw), rfl⟩⟩
  | p :: ps, hp, a, N, h, hk => by
    have s := z_wl_s p (hp p (List.mem_cons_self ..))
    refine z_bind (m_here hw hm h s.1 s.2.1 (hk p (hp p (List.mem_cons_self ..))) s.2.2.1 s.2.2.2.1) fun q hq => ?_
    obtain ⟨q1, q2, q3⟩ := hq
    rw [q1, z_if01]
    by_cases c : z_is T n b p.2
    · rw [if_pos c]
      exact z_some ⟨q3, ⟨_, q2, fun _ => rfl⟩, Or.inl ⟨⟨p.2, List.mem_cons_self .., c⟩, rfl⟩⟩
    · rw [if_neg c]
      refine z_mono (m_hs hw hm ps (fun p' h' => hp p' (List.mem_cons_of_mem _ h')) q2 (hk.lx q3)) fun r hr => ?_
      refine ⟨q3.tr hr.1, hr.2.1.elim fun a' t => ⟨a', t.1, fun _ => t.2 rfl⟩, ?_⟩
      rcases hr.2.2 with ⟨⟨w, w1, w2⟩, e⟩ | ⟨g, e⟩
      · exact Or.inl ⟨⟨w, List.mem_cons_of_mem _ w1, w2⟩, e⟩
      · refine Or.inr ⟨fun ⟨w, w1, w2⟩ => ?_, e⟩
        rcases List.mem_cons.mp w1 with rfl | w1
        · exact c w2
        · exact g ⟨w, w1, w2⟩
theorem z_ix_any {ws : List (List Nat)} : z_ix T n b ws = none ↔ ¬ z_anyw T n b ws := by
  induction ws with
  | nil => exact ⟨fun _ ⟨w, h, _⟩ => (nomatch h), fun _ => rfl⟩
  | cons w ws ih =>
    unfold z_ix
    by_cases c : z_is T n b w
    · rw [if_pos c]
      exact ⟨fun h => (nomatch h), fun h => absurd ⟨w, List.mem_cons_self .., c⟩ h⟩
    · rw [if_neg c]
      refine ⟨fun h ⟨v, v1, v2⟩ => ?_, fun h => ?_⟩
      · rcases List.mem_cons.mp v1 with rfl | v1
        · exact c v2
        · exact ih.mp (Option.map_eq_none_iff.mp h) ⟨v, v1, v2⟩
      · rw [ih.mpr (fun ⟨v, v1, v2⟩ => h ⟨v, List.mem_cons_of_mem _ v1, v2⟩)]; rfl
theorem m_own (hw : z_wt n T) (hm : z_mb T n b) (h : z_RF T n b a N) (hk : z_KW N) :
    z_ok (f_Mo_isOwnHere 366 N) (fun q => z_LX N q.2 ∧ (∃ a', z_RF T n b a' q.2 ∧ (a = z_sk T n b → a' = z_sk T n b)) ∧ ((z_anyw T n b z_OW ∧ q.1 = 1) ∨ (¬ z_anyw T n b z_OW ∧ q.1 = 0))) := by
  have e : f_Mo_isOwnHere 366 N = (z_hs ((z_wl.take 6).map (·.1)) N).bind fun q2 => (if q2.1 = 0 then z_hs (((z_wl.drop 6).take 6).map (·.1)) q2.2 else some (1, q2.2) : Option (Int32 × SM)).bind fun q14 => if q14.1 = 0 then z_hs (((z_wl.drop 12).take 5).map (·.1)) q14.2 else some (1, q14.2) := by
    rw [f_Mo_isOwnHere]
    simp only [z_wl, List.take, List.drop, List.map, z_hs]
    conv => rhs; rw [Option.bind_assoc]
  rw [e]
  have sub : ∀ w, z_anyw T n b w → ∀ v, (∀ x, x ∈ w → x ∈ v) → z_anyw T n b v := fun w ⟨x, x1, x2⟩ v k => ⟨x, k x x1, x2⟩
  have e1 : ((z_wl.take 6).map (·.2)) ++ (((z_wl.drop 6).take 6).map (·.2)) ++ (((z_wl.drop 12).take 5).map (·.2)) = z_OW := rfl
  have cov : z_anyw T n b z_OW → z_anyw T n b ((z_wl.take 6).map (·.2)) ∨ z_anyw T n b (((z_wl.drop 6).take 6).map (·.2)) ∨ z_anyw T n b (((z_wl.drop 12).take 5).map (·.2)) := fun ⟨x, x1, x2⟩ => by
    rw [← e1] at x1
    rcases List.mem_append.mp x1 with x1 | x1
    · rcases List.mem_append.mp x1 with x1 | x1
      · exact Or.inl ⟨x, x1, x2⟩
      · exact Or.inr (Or.inl ⟨x, x1, x2⟩)
    · exact Or.inr (Or.inr ⟨x, x1, x2⟩)
  refine z_bind (m_hs hw hm (z_wl.take 6) (by decide) h hk) fun q hq => ?_
  obtain ⟨l1, ⟨a1, r1, s1⟩, d1⟩ := hq
  rcases d1 with ⟨d1, e1'⟩ | ⟨d1, e1'⟩
  · rw [e1', if_neg (show ¬ (1 : Int32) = 0 by decide)]
    exact z_eq rfl (z_neg (show ¬ (1 : Int32) = 0 by decide) (z_some ⟨l1, ⟨a1, r1, s1⟩, Or.inl ⟨sub _ d1 _ (by decide), rfl⟩⟩))
  rw [e1', if_pos rfl]
  refine z_bind (m_hs hw hm ((z_wl.drop 6).take 6) (by decide) r1 (hk.lx l1)) fun q2 hq => ?_
  obtain ⟨l2, ⟨a2, r2, s2⟩, d2⟩ := hq
  rcases d2 with ⟨d2, e2'⟩ | ⟨d2, e2'⟩
  · rw [e2']
    exact z_neg (show ¬ (1 : Int32) = 0 by decide) (z_some ⟨l1.tr l2, ⟨a2, r2, fun t => s2 (s1 t)⟩, Or.inl ⟨sub _ d2 _ (by decide), rfl⟩⟩)
  rw [e2', if_pos rfl]
  refine z_mono (m_hs hw hm ((z_wl.drop 12).take 5) (by decide) r2 ((hk.lx l1).lx l2)) fun r hr => ?_
  refine ⟨(l1.tr l2).tr hr.1, hr.2.1.elim fun a' t => ⟨a', t.1, fun e => t.2 (s2 (s1 e))⟩, ?_⟩
  rcases hr.2.2 with ⟨d3, e3⟩ | ⟨d3, e3⟩
  · exact Or.inl ⟨sub _ d3 _ (by decide), e3⟩
  · refine Or.inr ⟨fun t => ?_, e3⟩
    rcases cov t with t | t | t
    · exact d1 t
    · exact d2 t
    · exact d3 t
theorem c_own (hw : z_wt n T) (hb : b ≤ n) (hR : z_RD T n b M) : f_Re_wordAmong 3 1003 M = some (match z_ix T n b z_OW with | some i => nI i | none => -1) :=
  c_among hw hb hR (a := 1003) (ws := z_OW) (by decide +kernel) (by decide +kernel) (by decide +kernel) (by decide +kernel)
end
