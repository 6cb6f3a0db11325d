/-! ===== pure: a STATEMENT, whole, both ===== -/
def z_k8 : List (Nat × List Nat) := [(11, [98, 101, 100]), (13, [119, 97, 116, 101, 114]), (14, [100, 101, 115, 107]), (17, [112, 105, 116]), (18, [115, 108, 117, 105, 99, 101]), (19, [109, 105, 108, 108]), (21, [98, 111, 97, 116]), (23, [99, 108, 97, 113, 117, 101])]
def z_k9 : List (List Nat) := [[98, 101, 100], [119, 97, 116, 101, 114], [100, 101, 115, 107], [112, 105, 116], [115, 108, 117, 105, 99, 101], [109, 105, 108, 108], [98, 111, 97, 116], [99, 108, 97, 113, 117, 101], [98, 97, 110, 107]]
def z_b8 (x : Int32) : List (SM → Option SM) := [fun N => (f_Mo_cellIsTold 366 1 N).bind fun q31 => some q31, fun N => (f_Mo_cellIsTold 366 0 N).bind fun q30 => some q30, fun N => (f_Mo_deskTold 366 x N).bind fun q29 => some q29, fun N => (f_Mo_cellTold 366 N).bind fun q27 => (aS q27.2 (jpf 366 40) 0 q27.1).bind fun M28 => some M28, fun N => (f_Mo_sluiceTold 366 N).bind fun q26 => some q26, fun N => (f_Mo_millTold 366 x N).bind fun q25 => some q25, fun N => (f_Mo_boatTold 366 x N).bind fun q24 => some q24, fun N => (f_Mo_claqueTold 366 x N).bind fun q23 => some q23]
def z_bk (N : SM) : Option SM := (f_Mo_asks 366 (jpf 366 25) N).bind fun q20 => (f_Mo_number 366 1 99 q20).bind fun q21 => (aS q21.2 (jpf 366 41) 0 q21.1).bind fun M22 => some M22
section
variable {T : Nat → Nat} {n b R : Nat} {A : ZA} {nm nm' : Nat → Nat → Nat} {P P' : ZP} {M N M1 N1 N2 M' N' : SM}
theorem m_stm (h42 : ¬ N.1 366 42 = 70) : f_Mo_statementTold 366 N = (z_tk ((z_k8.map (·.1)).zip (z_b8 (N.1 366 2))) z_bk N).bind fun q4 => (f_Mo_asksSign 366 59 q4).bind fun q32 => some (sI q32 366 42 ((q32.1 366 42) + 1)) := by
  unfold f_Mo_statementTold
  rw [if_neg h42]
  simp only [z_k8, z_b8, List.map, List.zip, List.zipWith, z_tk]
  conv => rhs; rw [Option.bind_assoc]
  rfl
theorem c_kinds (hw : z_wt n T) (hb : b ≤ n) (hR : z_RD T n b M) : f_Re_wordAmong 3 1001 M = some (match z_ix T n b z_k9 with | some i => nI i | none => -1) :=
  c_among hw hb hR (a := 1001) (ws := z_k9) (by decide +kernel) (by decide +kernel) (by decide +kernel) (by decide +kernel)
theorem z_ST.tr {v : Int32} (C : z_YC R M M1) (Y : z_YN N N1) (S : z_SF M M1) (h : z_ST T n R A M1 N1 v M' N') : z_ST T n R A M N v M' N' := by
  obtain ⟨h1, h2, h3⟩ := h
  refine ⟨C.tr h1, Y.tr h2, ?_⟩
  rcases h3 with ⟨a, b, c, d⟩ | h3 | h3
  · exact Or.inl ⟨a, b, S.tr c, d⟩
  · exact Or.inr (Or.inl h3)
  · exact Or.inr (Or.inr h3)
theorem z_ST.v {v : Int32} (h : z_ST T n R A M N v M' N') : v = 0 ∨ v = 1 := by
  rcases h.2.2 with h3 | h3 | h3
  · exact Or.inr h3.1
  · exact Or.inl h3.1
  · exact Or.inr h3.1
/-- a kind that is full -/
theorem z_ST.full (C : z_YC R M M1) (Y : z_YN N N1) {p : Nat} : z_ST T n R A M N 0 (sI (sI M1 3 5 (nI 5)) 3 6 (nI p)) (sI (sI N1 366 5 (nI 5)) 366 6 (nI p)) :=
  z_ST.ff (C.tr (z_RE.rf.f.f.yc)) ((Y.s (z_pf (by decide))).s (z_pf (by decide))) ⟨5, p, z_CF.mk 5 p, by decide, by decide, z_MF.mk 5 p⟩
theorem c_isFull (hQ : z_QB R A nm P M N) : f_Or_isFull 107 2 M = some (if A 0 3 < 8 then 0 else 1) ∧ f_Or_isFull 107 5 M = some (if A 0 4 < 4 then 0 else 1) ∧ f_Or_isFull 107 6 M = some (if A 0 5 < 4 then 0 else 1) ∧ f_Or_isFull 107 7 M = some (if A 0 6 < 4 then 0 else 1) := by
  have hb := hQ.2.2.1.b rfl
  have hO := hQ.2.2.1.oc rfl
  have hR := hQ.1
  have two : ∀ {k m : Nat}, k < 100 → m < 100 → (if nI k < nI m then (some 0 : Option Int32) else some 1) = some (if k < m then 0 else 1) := by
    intro k m hk hm
    by_cases c : k < m
    · rw [if_pos (nI_lt c (by omega)), if_pos c]
    · rw [if_neg (nI_nlt (by omega) (by omega)), if_neg c]
  have bk : ∀ {k : Nat}, (bchk (if k < 4 then (0 : Int32) else 1)).bind (fun b7 => some b7) = some (if k < 4 then (0 : Int32) else 1) := by
    intro k
    rw [z_bchk (by split <;> simp)]; rfl
  refine ⟨?_, ?_, ?_, ?_⟩
  · unfold f_Or_isFull
    rw [if_pos rfl, hQ.2.1, hO.2.2.2.1, zl_8, two (by omega) (by decide)]
  · unfold f_Or_isFull
    rw [if_neg (by decide), if_neg (by decide), if_neg (by decide), if_pos rfl, hQ.2.1, jo_10 hR]
    unfold f_St_isFull
    rw [hO.2.2.2.2.1, zl_4, two (by omega) (by decide)]
    exact bk
  · unfold f_Or_isFull
    rw [if_neg (by decide), if_neg (by decide), if_neg (by decide), if_neg (by decide), if_pos rfl, hQ.2.1, jo_11 hR]
    unfold f_St_isFull
    rw [hO.2.2.2.2.2.1, zl_4, two (by omega) (by decide)]
    exact bk
  · unfold f_Or_isFull
    rw [if_neg (by decide), if_neg (by decide), if_neg (by decide), if_neg (by decide), if_neg (by decide), if_pos rfl, hQ.2.1, jo_12 hR]
    unfold f_St_isFull
    rw [hO.2.2.2.2.2.2.1, zl_4, two (by omega) (by decide)]
    exact bk
theorem g_stm (hw : z_wt n T) (h : z_BT T n b M N) (hat : N.1 366 2 = nI (z_sk T n b)) (hK : z_KW N) (hQ : z_QB R A nm P M N) :
    z2 (f_Or_takeStatement 107 M) (z_tk ((z_k8.map (·.1)).zip (z_b8 (N.1 366 2))) z_bk N) (fun q N' => z_ST T n R A M N q.1 q.2 N') := by
  have hb := hQ.2.2.1.b rfl
  have hR := hQ.1
  obtain ⟨hm, hRd, hT, a, hF⟩ := id h
  have ec := c_kinds hw hm.1 hRd
  have full := c_isFull hQ
  obtain ⟨Ms, es, s1, s2, s3⟩ := c_next hw hT hm.1 hRd
  have bch : ∀ {o : Option (Int32 × SM)} {o' : Option SM} {M1 N1 : SM}, z_YC R M M1 → z_YN N N1 → z_SF M M1 → z2 o o' (fun q N' => z_ST T n R A M1 N1 q.1 q.2 N') → z2 (o.bind fun q => (bchk q.1).bind fun b => some (b, q.2)) (o'.bind fun q => some q) (fun q N' => z_ST T n R A M N q.1 q.2 N') :=
    fun C Y S k => z2_b k (fun q N' hq => z2_l (z_bchk hq.v) (z2_some (hq.tr C Y S)))
  have bch2 : ∀ {o : Option (Int32 × SM)} {o' : Option SM} {M1 N1 : SM}, z_YC R M M1 → z_YN N N1 → z_SF M M1 → z2 o o' (fun q N' => z_ST T n R A M1 N1 q.1 q.2 N') → z2 (o.bind fun q => (bchk q.1).bind fun b => some (b, q.2)) o' (fun q N' => z_ST T n R A M N q.1 q.2 N') :=
    fun C Y S k => by
      have := bch C Y S k
      have e : ∀ (o' : Option SM), (o'.bind fun q => some q) = o' := fun o' => by cases o' <;> rfl
      rw [e] at this
      exact this
  rcases m_tk hw hm z_bk z_k8 (z_b8 (N.1 366 2)) (by decide) rfl hF hK with ⟨i, k, i1, i2, ⟨so, hlt⟩, N1, i4, i5, i6⟩ | ⟨i1, N1, a1, i4, i5, i6, i7⟩
  · rw [i4]
    have i9 : z_ix T n b z_k9 = some i := by
      show z_ix T n b (z_k8.map (·.2) ++ [[98, 97, 110, 107]]) = _
      rw [z_ix_app, i1]
    rw [i9] at ec
    have hi8 : i < 8 := z_ix_lt _ _ i1
    have B1 : z_BT T n (z_en T n b) Ms N1 := ⟨(z_en_s hm.1).2.2.2, s1, hT.re s2, _, i6⟩
    have Q1 := hQ.re s2 i5
    have K1 := hK.lx i5
    unfold f_Or_takeStatement
    rw [jp_107_0]
    refine z2_l ec (z2_ln (nI_pos (by omega)) ?_)
    have C1 : z_YC R M Ms := s2.yc
    have Y1 : z_YN N N1 := i5.yn
    have at1 : N1.1 366 5 = 0 := i6.2.2.2.2.2.1
    have : i = 0 ∨ i = 1 ∨ i = 2 ∨ i = 3 ∨ i = 4 ∨ i = 5 ∨ i = 6 ∨ i = 7 := by omega
    rcases this with rfl | rfl | rfl | rfl | rfl | rfl | rfl | rfl
    · -- bed
      have hk := (Option.some.inj i2).symm
      subst hk
      refine z2_l (r := (0 : Int32)) rfl (z2_lp rfl (z2_l es ?_))
      refine z2_lp rfl ?_
      rw [Q1.2.1, jo_5 hR]
      exact bch C1 Y1 s3 (g_grd (j := 1) hw B1 K1 Q1 (Or.inl ⟨rfl, rfl, rfl⟩))
    · -- water
      have hk := (Option.some.inj i2).symm
      subst hk
      refine z2_l (r := (0 : Int32)) rfl (z2_lp rfl (z2_l es ?_))
      refine z2_ln (by decide) (z2_lp rfl ?_)
      rw [Q1.2.1, jo_6 hR]
      exact bch C1 Y1 s3 (g_grd (j := 2) hw B1 K1 Q1 (Or.inr ⟨rfl, rfl, rfl⟩))
    · -- desk
      have hk := (Option.some.inj i2).symm
      subst hk
      by_cases fl : A 0 3 < 8
      · refine z2_l (full.1.trans (by rw [if_pos fl])) (z2_lp rfl (z2_l es ?_))
        refine z2_ln (by decide) (z2_ln (by decide) (z2_lp rfl ?_))
        rw [hat]
        exact bch C1 Y1 s3 (g_dsk hw B1 K1 Q1 fl)
      · refine z2_l (full.1.trans (by rw [if_neg fl])) (z2_ln z_10 ?_)
        rw [hRd.2.1, hat]
        refine z2_l (r := (0, sI (sI M 3 5 (nI 5)) 3 6 (nI (z_sk T n b)))) rfl (z2_l (z_bchk (Or.inl rfl)) ?_)
        refine z2_r (r := sI (sI N1 366 5 (nI 5)) 366 6 (nI (z_sk T n b))) ?_ (z2_some (z_ST.full z_YC.rf Y1))
        unfold f_Mo_deskTold
        rw [zl_8]
        rw [show f_Mo_isFull 366 0 (nI 8) (nI (z_sk T n b)) N1 = _ from m_full (i := 0) (room := 8) (by decide) at1 (Q1.2.2.1.many (i := 0) (by decide)) (by show A 0 3 ≤ 8; omega) (by decide), if_pos (show A 0 (3 + 0) = 8 by show A 0 3 = 8; omega)]
        rfl
    · -- pit
      have hk := (Option.some.inj i2).symm
      subst hk
      refine z2_l (r := (0 : Int32)) rfl (z2_lp rfl (z2_l es ?_))
      refine z2_ln (by decide) (z2_ln (by decide) (z2_ln (by decide) (z2_lp rfl ?_)))
      exact bch2 C1 Y1 s3 (g_pit hw B1 Q1)
    · -- sluice
      have hk := (Option.some.inj i2).symm
      subst hk
      refine z2_l (r := (0 : Int32)) rfl (z2_lp rfl (z2_l es ?_))
      refine z2_ln (by decide) (z2_ln (by decide) (z2_ln (by decide) (z2_ln (by decide) (z2_lp rfl ?_))))
      exact bch C1 Y1 s3 (g_sluice hw B1 Q1)
    · -- mill
      have hk := (Option.some.inj i2).symm
      subst hk
      by_cases fl : A 0 4 < 4
      · refine z2_l (full.2.1.trans (by rw [if_pos fl])) (z2_lp rfl (z2_l es ?_))
        refine z2_ln (by decide) (z2_ln (by decide) (z2_ln (by decide) (z2_ln (by decide) (z2_ln (by decide) (z2_lp rfl ?_)))))
        rw [Q1.2.1, jo_10 hR]
        rw [hat]
        exact bch C1 Y1 s3 (g_mill hw B1 K1 Q1 fl)
      · refine z2_l (full.2.1.trans (by rw [if_neg fl])) (z2_ln z_10 ?_)
        rw [hRd.2.1, hat]
        refine z2_l (r := (0, sI (sI M 3 5 (nI 5)) 3 6 (nI (z_sk T n b)))) rfl (z2_l (z_bchk (Or.inl rfl)) ?_)
        refine z2_r (r := sI (sI N1 366 5 (nI 5)) 366 6 (nI (z_sk T n b))) ?_ (z2_some (z_ST.full z_YC.rf Y1))
        unfold f_Mo_millTold
        rw [zl_4]
        rw [show f_Mo_isFull 366 1 (nI 4) (nI (z_sk T n b)) N1 = _ from m_full (i := 1) (room := 4) (by decide) at1 (Q1.2.2.1.many (i := 1) (by decide)) (by show A 0 4 ≤ 8; omega) (by decide), if_pos (show A 0 (3 + 1) = 4 by show A 0 4 = 4; omega)]
        rfl
    · -- boat
      have hk := (Option.some.inj i2).symm
      subst hk
      by_cases fl : A 0 5 < 4
      · refine z2_l (full.2.2.1.trans (by rw [if_pos fl])) (z2_lp rfl (z2_l es ?_))
        refine z2_ln (by decide) (z2_ln (by decide) (z2_ln (by decide) (z2_ln (by decide) (z2_ln (by decide) (z2_ln (by decide) (z2_lp rfl ?_))))))
        rw [Q1.2.1, jo_11 hR]
        rw [hat]
        exact bch C1 Y1 s3 (g_bt4 hw B1 K1 Q1 fl)
      · refine z2_l (full.2.2.1.trans (by rw [if_neg fl])) (z2_ln z_10 ?_)
        rw [hRd.2.1, hat]
        refine z2_l (r := (0, sI (sI M 3 5 (nI 5)) 3 6 (nI (z_sk T n b)))) rfl (z2_l (z_bchk (Or.inl rfl)) ?_)
        refine z2_r (r := sI (sI N1 366 5 (nI 5)) 366 6 (nI (z_sk T n b))) ?_ (z2_some (z_ST.full z_YC.rf Y1))
        unfold f_Mo_boatTold
        rw [zl_4]
        rw [show f_Mo_isFull 366 2 (nI 4) (nI (z_sk T n b)) N1 = _ from m_full (i := 2) (room := 4) (by decide) at1 (Q1.2.2.1.many (i := 2) (by decide)) (by show A 0 5 ≤ 8; omega) (by decide), if_pos (show A 0 (3 + 2) = 4 by show A 0 5 = 4; omega)]
        rfl
    · -- claque
      have hk := (Option.some.inj i2).symm
      subst hk
      by_cases fl : A 0 6 < 4
      · refine z2_l (full.2.2.2.trans (by rw [if_pos fl])) (z2_lp rfl (z2_l es ?_))
        refine z2_ln (by decide) (z2_ln (by decide) (z2_ln (by decide) (z2_ln (by decide) (z2_ln (by decide) (z2_ln (by decide) (z2_ln (by decide) (z2_lp rfl ?_)))))))
        rw [Q1.2.1, jo_12 hR]
        rw [hat]
        exact bch C1 Y1 s3 (g_claque hw B1 K1 Q1 fl)
      · refine z2_l (full.2.2.2.trans (by rw [if_neg fl])) (z2_ln z_10 ?_)
        rw [hRd.2.1, hat]
        refine z2_l (r := (0, sI (sI M 3 5 (nI 5)) 3 6 (nI (z_sk T n b)))) rfl (z2_l (z_bchk (Or.inl rfl)) ?_)
        refine z2_r (r := sI (sI N1 366 5 (nI 5)) 366 6 (nI (z_sk T n b))) ?_ (z2_some (z_ST.full z_YC.rf Y1))
        unfold f_Mo_claqueTold
        rw [zl_4]
        rw [show f_Mo_isFull 366 3 (nI 4) (nI (z_sk T n b)) N1 = _ from m_full (i := 3) (room := 4) (by decide) at1 (Q1.2.2.1.many (i := 3) (by decide)) (by show A 0 6 ≤ 8; omega) (by decide), if_pos (show A 0 (3 + 3) = 4 by show A 0 6 = 4; omega)]
        rfl
  · rw [i4]
    have i9 : z_ix T n b z_k9 = if z_is T n b [98, 97, 110, 107] then some 8 else none := by
      show z_ix T n b (z_k8.map (·.2) ++ [[98, 97, 110, 107]]) = _
      rw [z_ix_app, i1]; rfl
    rw [i9] at ec
    unfold z_bk f_Or_takeStatement
    rw [jp_107_0]
    have K1 := hK.lx i5
    obtain ⟨t1, t2, t3, t4, _⟩ := z_wl_s (25, [98, 97, 110, 107]) (by decide)
    obtain ⟨N2, ea, x2, a2⟩ := m_asks hw hm i6 t1 t2 (K1 _ (by decide)) t3 t4
    by_cases bk : z_is T n b [98, 97, 110, 107]
    · rw [if_pos bk] at ec
      rcases a2 with ⟨_, a2⟩ | ⟨x, _⟩
      · have B1 : z_BT T n (z_en T n b) Ms N2 := ⟨(z_en_s hm.1).2.2.2, s1, hT.re s2, _, a2⟩
        have Q1 := hQ.re s2 (i5.tr x2)
        refine z2_l ec (z2_ln (by decide) (z2_l (r := (0 : Int32)) rfl (z2_lp rfl (z2_l es ?_))))
        refine z2_r ea ?_
        refine z2_ln (by decide) (z2_ln (by decide) (z2_ln (by decide) (z2_ln (by decide) (z2_ln (by decide) (z2_ln (by decide) (z2_ln (by decide) (z2_ln (by decide) (?_))))))))
        exact bch2 s2.yc (i5.tr x2).yn s3 (g_bank hw B1 Q1)
      · exact absurd bk x
    · rw [if_neg bk] at ec
      rcases a2 with ⟨x, _⟩ | ⟨_, a2⟩
      · exact absurd x bk
      · have bad : N2.1 366 5 ≠ 0 := a2.bad (by decide) (by decide)
        refine z2_l ec (z2_lp z_m1 ?_)
        refine z2_l c_refuse (z2_l (z_bchk (Or.inl rfl)) ?_)
        refine z2_r ea (z2_r (b_num bad) ?_)
        rw [jm_41]
        refine z2_r (zs_396 _ (k := 0) (by decide)) (z2_some ?_)
        rw [hRd.2.1]
        exact z_ST.ff z_RE.rf.f.f.yc ((i5.tr x2).yn.s (z_pn (by decide) (by decide) (by decide))) ((z_FF.mk1 (z_CF.mk 1 _) a2 (by decide) (by decide)).st (by decide))
end
