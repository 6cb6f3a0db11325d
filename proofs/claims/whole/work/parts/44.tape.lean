/-! ===== pure: the tape, the wet, images ===== -/
/-- byte i of a number -/
def z_by (x : Int32) (i : Nat) : Nat := (jush x (nI (24 - 8 * i))).toBitVec.toNat % 256
theorem z_by_c (x : Int32) (i : Nat) : jush x (nI (24 - 8 * i)) &&& 255 = nI (z_by x i) := pk_and _ 8 (by decide)
theorem z_by_b (x : Int32) (i : Nat) : z_by x i < 256 := Nat.mod_lt _ (by decide)
theorem z_shx (x : BitVec 32) (s : Nat) (hs : s ≤ 24) : (x.sshiftRight s) &&& 255#32 = (x >>> s) &&& 255#32 := by
  apply BitVec.eq_of_getLsbD_eq
  intro i hi
  rw [BitVec.getLsbD_and, BitVec.getLsbD_and]
  by_cases h : i < 8
  · rw [BitVec.getLsbD_sshiftRight, BitVec.getLsbD_ushiftRight]
    have h1 : ¬ 32 ≤ i := by omega
    have h2 : s + i < 32 := by omega
    simp [h1, h2]
  · have e : (255#32).getLsbD i = false := by
      rw [BitVec.getLsbD_ofNat, Nat.testBit_lt_two_pow (Nat.lt_of_lt_of_le (show 255 < 2 ^ 8 by decide) (Nat.pow_le_pow_right (by decide) (by omega)))]
      simp
    rw [e, Bool.and_false, Bool.and_false]
theorem z_shr (x : Int32) : ∀ r, r < 4 → (x >>> (nI (8 * (3 - r)) &&& 31)) &&& 255 = nI (z_by x r) := by
  intro r hr
  rw [← z_by_c]
  apply Int32.toBitVec_inj.mp
  have key : ∀ s : Nat, s ≤ 24 → ∀ (a b : Int32), a = (nI s &&& 31) → b = nI s → (a.toBitVec.smod 32).toNat = s → ((b.toUInt32 &&& Int32.toUInt32 31).toBitVec % 32).toNat = s → ((x >>> a) &&& 255).toBitVec = (jush x b &&& 255).toBitVec := by
    intro s hs a b _ _ h1 h2
    rw [Int32.toBitVec_and, Int32.toBitVec_and, Int32.toBitVec_shiftRight]
    have e1 : (jush x b).toBitVec = x.toBitVec >>> s := by
      unfold jush
      show (x.toUInt32 >>> (b.toUInt32 &&& Int32.toUInt32 31)).toBitVec = _
      rw [UInt32.toBitVec_shiftRight]
      show x.toBitVec >>> ((b.toUInt32 &&& Int32.toUInt32 31).toBitVec % 32) = _
      rw [BitVec.ushiftRight_eq', h2]
    rw [e1]
    show (x.toBitVec.sshiftRight' _) &&& _ = _
    rw [BitVec.sshiftRight_eq', h1]
    exact z_shx _ _ hs
  match r, hr with
  | 0, _ => exact key 24 (by decide) _ _ rfl rfl (by decide) (by decide)
  | 1, _ => exact key 16 (by decide) _ _ rfl rfl (by decide) (by decide)
  | 2, _ => exact key 8 (by decide) _ _ rfl rfl (by decide) (by decide)
  | 3, _ => exact key 0 (by decide) _ _ rfl rfl (by decide) (by decide)
  | r + 4, h => omega
/-- the tape -/
def z_tc (n : Nat) (T : Nat → Nat) (M : SM) : Prop := M.1 1 1 = nI n ∧ ∀ k, k < n → M.1 2 k = nI (T k)
def z_tm (n : Nat) (T : Nat → Nat) (M : SM) : Prop := M.1 366 1 = nI n ∧ ∀ k, k < n → M.1 367 k = nI (T k)
def z_wt (n : Nat) (T : Nat → Nat) : Prop := n ≤ 1600 ∧ ∀ k, k < n → T k < 256
def z_fd (a b c d e : Int32) (j : Nat) : Nat := z_by (if j < 4 then a else if j < 8 then b else if j < 12 then c else if j < 16 then d else e) (j % 4)
def z_ft (n : Nat) (T : Nat → Nat) (a b c d e : Int32) (k : Nat) : Nat := if k < n then T k else z_fd a b c d e (k - n)
section
variable {M N : SM} {n : Nat} {T : Nat → Nat}
theorem c_four (x : Int32) (h : z_tc n T M) (hn : n + 4 ≤ 1600) (hx : ∀ i, i < 4 → T (n + i) = z_by x i) : z_ok (f_Ta_addFour 1 x M) (fun M' => z_tc (n + 4) T M' ∧ z_Fr (fun i => i ≠ 1 ∧ i ≠ 2) M M' ∧ M'.1 1 0 = M.1 1 0) := by
  unfold f_Ta_addFour
  have st : ∀ (i : Nat) (hi : i < 4) (M' : SM), M'.1 1 1 = nI (n + i) → ∀ m, lp_Ta_addFour_3 1 x (m + 1) (nI (24 - 8 * i)) M' = lp_Ta_addFour_3 1 x m (nI (24 - 8 * i) + (-8)) (sI (sI M' 2 (n + i) (nI (T (n + i)))) 1 1 (nI (n + i + 1))) := fun i hi M' hM m => by
    rw [lp_Ta_addFour_3, if_neg (nI_pos (by omega)), jp_1_0, z_by_c, ← hx i hi, hM, zp_2 _ (by omega)]
    simp only [Option.bind_some]
    rw [z_sIa _ _ _ _ (by decide), hM, nI_1]
  refine z_bind (P := fun M' => z_tc (n + 4) T M' ∧ z_Fr (fun i => i ≠ 1 ∧ i ≠ 2) M M' ∧ M'.1 1 0 = M.1 1 0) ?_ (fun M' h => z_some h)
  generalize hM1 : sI (sI M 2 n (nI (T n))) 1 1 (nI (n + 1)) = M1
  generalize hM2 : sI (sI M1 2 (n + 1) (nI (T (n + 1)))) 1 1 (nI (n + 2)) = M2
  generalize hM3 : sI (sI M2 2 (n + 2) (nI (T (n + 2)))) 1 1 (nI (n + 3)) = M3
  generalize hM4 : sI (sI M3 2 (n + 3) (nI (T (n + 3)))) 1 1 (nI (n + 4)) = M4
  have s1 := st 0 (by decide) M h.1 1999
  have s2 := st 1 (by decide) M1 (by rw [← hM1, z_sIs]) 1998
  have s3 := st 2 (by decide) M2 (by rw [← hM2, z_sIs]) 1997
  have s4 := st 3 (by decide) M3 (by rw [← hM3, z_sIs]) 1996
  rw [show n + 0 = n from rfl, hM1] at s1
  rw [show n + 1 + 1 = n + 2 from rfl, hM2] at s2
  rw [show n + 2 + 1 = n + 3 from rfl, hM3] at s3
  rw [show n + 3 + 1 = n + 4 from rfl, hM4] at s4
  have e1 : nI (24 - 8 * 0) + (-8) = nI (24 - 8 * 1) := by decide
  have e2 : nI (24 - 8 * 1) + (-8) = nI (24 - 8 * 2) := by decide
  have e3 : nI (24 - 8 * 2) + (-8) = nI (24 - 8 * 3) := by decide
  have e : lp_Ta_addFour_3 1 x jfuel 24 M = some M4 := by
    show lp_Ta_addFour_3 1 x (1999 + 1) (nI (24 - 8 * 0)) M = _
    rw [s1, e1]
    show lp_Ta_addFour_3 1 x (1998 + 1) _ M1 = _
    rw [s2, e2]
    show lp_Ta_addFour_3 1 x (1997 + 1) _ M2 = _
    rw [s3, e3]
    show lp_Ta_addFour_3 1 x (1996 + 1) _ M3 = _
    rw [s4]
    show lp_Ta_addFour_3 1 x (1995 + 1) _ M4 = _
    rw [lp_Ta_addFour_3]
    exact if_pos (by decide)
  refine ⟨M4, e, ⟨by rw [← hM4, z_sIs], fun k hk => ?_⟩, ⟨fun i hi => ?_, ?_⟩, ?_⟩
  · have r : ∀ (X : SM) (v : Int32), (sI X 1 1 v).1 2 = X.1 2 := fun X v => z_sIa _ _ _ _ (by decide)
    rw [← hM4, r]
    by_cases k3 : k = n + 3
    · rw [k3, z_sIs]
    rw [z_sIk _ _ _ _ k3, ← hM3, r]
    by_cases k2 : k = n + 2
    · rw [k2, z_sIs]
    rw [z_sIk _ _ _ _ k2, ← hM2, r]
    by_cases k1 : k = n + 1
    · rw [k1, z_sIs]
    rw [z_sIk _ _ _ _ k1, ← hM1, r]
    by_cases k0 : k = n
    · rw [k0, z_sIs]
    rw [z_sIk _ _ _ _ k0]
    exact h.2 k (by omega)
  · rw [← hM4, z_sIa _ _ _ _ hi.1, z_sIa _ _ _ _ hi.2, ← hM3, z_sIa _ _ _ _ hi.1, z_sIa _ _ _ _ hi.2, ← hM2, z_sIa _ _ _ _ hi.1, z_sIa _ _ _ _ hi.2, ← hM1, z_sIa _ _ _ _ hi.1, z_sIa _ _ _ _ hi.2]
  · rw [← hM4, ← hM3, ← hM2, ← hM1]; rfl
  · rw [← hM4, z_sIk _ _ _ _ (by decide), z_sIa _ _ _ _ (by decide), ← hM3, z_sIk _ _ _ _ (by decide), z_sIa _ _ _ _ (by decide), ← hM2, z_sIk _ _ _ _ (by decide), z_sIa _ _ _ _ (by decide), ← hM1, z_sIk _ _ _ _ (by decide), z_sIa _ _ _ _ (by decide)]
theorem c_feed (a b c d e : Int32) (h : z_tc n T M) (hn : n + 20 ≤ 1600) : z_ok (f_Sp_feed 0 a b c d e M) (fun r => r.1 = nI (n + 20) ∧ z_tc (n + 20) (z_ft n T a b c d e) r.2 ∧ z_Fr (fun i => i ≠ 1 ∧ i ≠ 2) M r.2) := by
  have h0 : z_tc n (z_ft n T a b c d e) M := ⟨h.1, fun k hk => by unfold z_ft; rw [if_pos hk]; exact h.2 k hk⟩
  unfold f_Sp_feed
  rw [jp_0_0, h.1, show (20 : Int32) = nI 20 from rfl, nI_add, show (1600 : Int32) = nI 1600 from rfl]
  refine z_neg (nI_nlt (by omega) (by omega)) ?_
  have bt : ∀ q i, q < 5 → i < 4 → z_ft n T a b c d e (n + 4 * q + i) = z_by (if q = 0 then a else if q = 1 then b else if q = 2 then c else if q = 3 then d else e) i := fun q i hq hi => by
    unfold z_ft z_fd
    rw [if_neg (by omega), show n + 4 * q + i - n = 4 * q + i by omega, show (4 * q + i) % 4 = i by omega]
    congr 1
    match q, hq with
    | 0, _ => rw [if_pos (by omega), if_pos rfl]
    | 1, _ => rw [if_neg (by omega), if_pos (by omega)]; rfl
    | 2, _ => rw [if_neg (by omega), if_neg (by omega), if_pos (by omega)]; rfl
    | 3, _ => rw [if_neg (by omega), if_neg (by omega), if_neg (by omega), if_pos (by omega)]; rfl
    | 4, _ => rw [if_neg (by omega), if_neg (by omega), if_neg (by omega), if_neg (by omega)]; rfl
    | q + 5, h => omega
  refine z_bind (c_four a h0 (by omega) (fun i hi => bt 0 i (by decide) hi)) (fun M1 h1 => ?_)
  refine z_bind (c_four b h1.1 (by omega) (fun i hi => bt 1 i (by decide) hi)) (fun M2 h2 => ?_)
  refine z_bind (c_four c h2.1 (by omega) (fun i hi => bt 2 i (by decide) hi)) (fun M3 h3 => ?_)
  refine z_bind (c_four d h3.1 (by omega) (fun i hi => bt 3 i (by decide) hi)) (fun M4 h4 => ?_)
  refine z_bind (c_four e h4.1 (by omega) (fun i hi => bt 4 i (by decide) hi)) (fun M5 h5 => z_some ⟨h5.1.1, h5.1, (((h1.2.1.tr h2.2.1).tr h3.2.1).tr h4.2.1).tr h5.2.1⟩)
theorem m_feed (a b c d e : Int32) (h : z_tm n T N) (hn : n + 20 ≤ 1600) : z_ok (f_Mo_feed 366 a b c d e N) (fun r => r.1 = nI (n + 20) ∧ z_tm (n + 20) (z_ft n T a b c d e) r.2 ∧ z_Fr (fun i => i ≠ 366 ∧ i ≠ 367) N r.2 ∧ ∀ k, k ≠ 1 → r.2.1 366 k = N.1 366 k) := by
  unfold f_Mo_feed
  rw [h.1, show (20 : Int32) = nI 20 from rfl, nI_add, show (1600 : Int32) = nI 1600 from rfl]
  refine z_neg (nI_nlt (by omega) (by omega)) ?_
  refine z_bind (P := fun N' => z_tm (n + 20) (z_ft n T a b c d e) N' ∧ z_Fr (fun i => i ≠ 366 ∧ i ≠ 367) N N' ∧ ∀ k, k ≠ 1 → N'.1 366 k = N.1 366 k) ?_ (fun N' h => z_some ⟨h.1.1, h⟩)
  refine z_loop (fun m c' s => lp_Mo_feed_18 366 a b c d e m c' s) (fun j N' => z_tm (n + j) (z_ft n T a b c d e) N' ∧ z_Fr (fun i => i ≠ 366 ∧ i ≠ 367) N N' ∧ ∀ k, k ≠ 1 → N'.1 366 k = N.1 366 k) _ 20 ?_ ?_ jfuel 0 N (by decide) (by decide) ⟨⟨h.1, fun k hk => by unfold z_ft; rw [if_pos (by omega)]; exact h.2 k hk⟩, z_Fr.rf, fun _ _ => rfl⟩
  · intro m j N' hj hI k
    obtain ⟨i1, i2, i3⟩ := hI
    show z_ok (lp_Mo_feed_18 366 a b c d e (m + 1) (nI j) N') _
    rw [lp_Mo_feed_18]
    refine z_pos (nI_lt hj (by decide)) ?_
    refine z_eq (r := if j < 4 then a else if j < 8 then b else if j < 12 then c else if j < 16 then d else e) (by
      have l : ∀ q : Nat, q < 100 → (nI j < nI q ↔ j < q) := fun q hq => nI_ltI (by omega) (by omega)
      rw [zl_4, zl_8, zl_12, show (16 : Int32) = nI 16 from rfl]
      by_cases c1 : j < 4
      · rw [if_pos ((l 4 (by decide)).mpr c1), if_pos c1]
      rw [if_neg (fun t => c1 ((l 4 (by decide)).mp t)), if_neg c1]
      by_cases c1 : j < 8
      · rw [if_pos ((l 8 (by decide)).mpr c1), if_pos c1]
      rw [if_neg (fun t => c1 ((l 8 (by decide)).mp t)), if_neg c1]
      by_cases c1 : j < 12
      · rw [if_pos ((l 12 (by decide)).mpr c1), if_pos c1]
      rw [if_neg (fun t => c1 ((l 12 (by decide)).mp t)), if_neg c1]
      by_cases c1 : j < 16
      · rw [if_pos ((l 16 (by decide)).mpr c1), if_pos c1]
      rw [if_neg (fun t => c1 ((l 16 (by decide)).mp t)), if_neg c1]) ?_
    rw [jm_0, zl_4, pk_rem (by omega) (by decide) (by decide), zl_3, z_sub (by omega), zl_8, pk_mul, z_shr _ _ (Nat.mod_lt _ (by decide)), i1.1]
    have e1 : z_by (if j < 4 then a else if j < 8 then b else if j < 12 then c else if j < 16 then d else e) (j % 4) = z_ft n T a b c d e (n + j) := by
      unfold z_ft z_fd
      rw [if_neg (show ¬ n + j < n by omega), show n + j - n = j by omega]
    rw [e1]
    refine z_eq (zs_367 _ (by omega)) ?_
    rw [z_sIa _ _ _ _ (by decide), i1.1, nI_1, nI_1]
    refine k _ ⟨⟨z_sIs _ _ _ _, fun q hq => ?_⟩, (i2.sI (by omega)).sI (by omega), fun q hq => ?_⟩
    · rw [z_sIa _ _ _ _ (by decide)]
      by_cases e : q = n + j
      · subst e; rw [z_sIs]
      · rw [z_sIk _ _ _ _ e]; exact i1.2 q (by omega)
    · rw [z_sIk _ _ _ _ hq, z_sIa _ _ _ _ (by decide)]; exact i3 q hq
  · intro m N' hI
    show z_ok (lp_Mo_feed_18 366 a b c d e (m + 1) (nI 20) N') _
    rw [lp_Mo_feed_18]
    exact z_neg (by decide) (z_some hI)
theorem g_feed (hw : z_wt n T) (h : z_tc n T M) (k : z_tm n T N) (a b c d e : Int32) :
    ∃ v M' N' n' T', f_Sp_feed 0 a b c d e M = some (v, M') ∧ f_Mo_feed 366 a b c d e N = some (v, N') ∧ z_wt n' T' ∧ z_tc n' T' M' ∧ z_tm n' T' N' ∧ z_Fr (fun i => i ≠ 1 ∧ i ≠ 2) M M' ∧ z_Fr (fun i => i ≠ 366 ∧ i ≠ 367) N N' ∧ ∀ k, k ≠ 1 → N'.1 366 k = N.1 366 k := by
  by_cases q : n + 20 ≤ 1600
  · obtain ⟨⟨v, M'⟩, ec, p1, p2, p3⟩ := c_feed a b c d e h q
    obtain ⟨⟨v', N'⟩, em, u1, u2, u3, u4⟩ := m_feed a b c d e k q
    have p1 : v = _ := p1
    have u1 : v' = _ := u1
    subst p1; subst u1
    refine ⟨_, M', N', n + 20, z_ft n T a b c d e, ec, em, ⟨q, fun k hk => ?_⟩, p2, u2, p3, u3, u4⟩
    unfold z_ft z_fd
    split
    · next h => exact hw.2 k h
    · exact z_by_b _ _
  · refine ⟨-1, M, N, n, T, ?_, ?_, hw, h, k, z_Fr.rf, z_Fr.rf, fun _ _ => rfl⟩
    · unfold f_Sp_feed
      rw [jp_0_0, h.1, show (20 : Int32) = nI 20 from rfl, nI_add, show (1600 : Int32) = nI 1600 from rfl, if_pos (nI_lt (by omega) (by have := hw.1; omega))]
    · unfold f_Mo_feed
      rw [k.1, show (20 : Int32) = nI 20 from rfl, nI_add, show (1600 : Int32) = nI 1600 from rfl, if_pos (nI_lt (by omega) (by have := hw.1; omega))]
theorem g_end (hw : z_wt n T) (h : z_tc n T M) (k : z_tm n T N) (x : Int32) :
    ∃ v M' N' n', f_Sp_end 0 x M = some (v, M') ∧ f_Mo_end 366 x N = some (v, N') ∧ z_wt n' T ∧ z_tc n' T M' ∧ z_tm n' T N' ∧ z_Fr (fun i => i ≠ 1 ∧ i ≠ 2) M M' ∧ z_Fr (fun i => i ≠ 366 ∧ i ≠ 367) N N' ∧ ∀ k, k ≠ 1 → N'.1 366 k = N.1 366 k := by
  have hn := hw.1
  unfold f_Sp_end f_Mo_end
  rw [jp_0_0, h.1, k.1]
  by_cases c1 : x < 0
  · rw [if_pos c1, if_pos c1]; exact ⟨0, M, N, n, rfl, rfl, hw, h, k, z_Fr.rf, z_Fr.rf, fun _ _ => rfl⟩
  rw [if_neg c1, if_neg c1]
  by_cases c2 : nI n < x
  · rw [if_pos c2, if_pos c2]; exact ⟨0, M, N, n, rfl, rfl, hw, h, k, z_Fr.rf, z_Fr.rf, fun _ _ => rfl⟩
  rw [if_neg c2, if_neg c2]
  obtain ⟨j, hj, rfl⟩ := nI_of c1
  have hjn : j ≤ n := Nat.not_lt.mp (fun t => c2 (nI_lt t hj))
  refine ⟨1, _, _, j, rfl, rfl, ⟨by omega, fun k hk => hw.2 k (by omega)⟩, ⟨z_sIs _ _ _ _, fun q hq => ?_⟩, ⟨z_sIs _ _ _ _, fun q hq => ?_⟩, z_Fr.rf.sI (by omega), z_Fr.rf.sI (by omega), fun q hq => z_sIk _ _ _ _ hq⟩
  · rw [z_sIa _ _ _ _ (by decide)]; exact h.2 q (by omega)
  · rw [z_sIa _ _ _ _ (by decide)]; exact k.2 q (by omega)
theorem c_read {k : Nat} (hw : z_wt n T) (h : z_tc n T M) (hk : k < 2 ^ 30) : f_Ta_read 1 (nI k) M = some (if k < n then nI (T k) else -1) := by
  have hn := hw.1
  unfold f_Ta_read
  rw [if_neg (nI_pos (by omega)), h.1, jp_1_0, jl_2]
  by_cases q : k < n
  · rw [if_pos (nI_lt q (by omega)), if_pos (nI_lt (by omega) (by decide)), if_pos q, zi_2 _ (by omega), h.2 k q]; rfl
  · rw [if_neg (nI_nlt (by omega) (by omega)), if_neg q]
/-- wet -/
theorem g_wet {o : Nat} {A : ZA} {nm : Nat → Nat → Nat} {P : ZP} (hW : z_WB A nm P) (hC : z_CB o A nm P M) (hM : z_MB A nm P N) (hw : z_wt n T) (h : z_tc n T M) (k : z_tm n T N) :
    ∃ v M' N', f_Sp_wet 0 M = some (v, M') ∧ f_Mo_wet 366 N = some (v, N') ∧ z_tc 0 T M' ∧ z_tm 0 T N' ∧ z_Fr (fun i => i ≠ 0 ∧ i ≠ 1 ∧ i ≠ 364) M M' ∧ (∀ k, k ≠ 11 → M'.1 0 k = M.1 0 k) ∧ z_Fr (fun i => i ≠ 366 ∧ i ≠ 405) N N' ∧ (∀ k, k ≠ 1 → k ≠ 65 → N'.1 366 k = N.1 366 k) ∧
      ((0 < A 0 0 ∧ n = A 0 0 ∧ M'.1 0 11 = nI 1 ∧ N'.1 366 65 = nI 1 ∧ ∀ c, c < A 0 0 → M'.1 364 c = nI (T c) ∧ N'.1 405 c = nI (T c)) ∨ (M'.1 0 11 = M.1 0 11 ∧ N'.1 366 65 = N.1 366 65 ∧ M'.1 364 = M.1 364 ∧ N'.1 405 = N.1 405)) := by
  have hc0 := hW.1.1
  have hn := hw.1
  by_cases good : 0 < A 0 0 ∧ n = A 0 0
  · obtain ⟨g1, g2⟩ := good
    have sc : z_ok (f_Sp_wet 0 M) (fun r => r.1 = 1 ∧ z_tc 0 T r.2 ∧ z_Fr (fun i => i ≠ 0 ∧ i ≠ 1 ∧ i ≠ 364) M r.2 ∧ (∀ k, k ≠ 11 → r.2.1 0 k = M.1 0 k) ∧ r.2.1 0 11 = nI 1 ∧ ∀ c, c < A 0 0 → r.2.1 364 c = nI (T c)) := by
      unfold f_Sp_wet
      rw [hC.2.1, hC.2.2.1.1, jp_0_0, h.1, ← g2, if_pos rfl]
      refine z_eq (r := (1 : Int32)) (if_pos (show (0 : Int32) < nI n from nI_lt (a := 0) (by omega) (by omega))) ?_
      refine z_bind (P := fun M' => z_Fr (fun i => i ≠ 0 ∧ i ≠ 364) M M' ∧ (∀ k, k ≠ 11 → M'.1 0 k = M.1 0 k) ∧ M'.1 0 11 = nI 1 ∧ ∀ c, c < n → M'.1 364 c = nI (T c)) (z_neg z_10 ?_) (fun M' hM' => ?_)
      · refine z_bind (P := fun M' => z_Fr (fun i => i ≠ 364) M M' ∧ ∀ c, c < n → M'.1 364 c = nI (T c)) ?_ (fun M' hM' => z_some ⟨(hM'.1.wk (fun i q => q.2)).sI (by omega), fun k hk => by rw [z_sIk _ _ _ _ hk, hM'.1.1 0 (by decide)], z_sIs _ _ _ _, fun c hc => by rw [z_sIa _ _ _ _ (by decide)]; exact hM'.2 c hc⟩)
        refine z_loop (fun m c s => lp_Sp_wet_39 0 m c s) (fun c M' => z_Fr (fun i => i ≠ 364) M M' ∧ ∀ j, j < c → j < n → M'.1 364 j = nI (T j)) _ 12 ?_ ?_ jfuel 0 M (by decide) (by decide) ⟨z_Fr.rf, fun j a b => by omega⟩
        · intro m c M' hc hI kk
          obtain ⟨i1, i2⟩ := hI
          have ht : z_tc n T M' := ⟨by rw [i1.1 1 (by decide)]; exact h.1, fun q hq => by rw [i1.1 2 (by decide)]; exact h.2 q hq⟩
          show z_ok (lp_Sp_wet_39 0 (m + 1) (nI c) M') _
          rw [lp_Sp_wet_39, jp_0_10, jl_364, jp_0_0]
          refine z_pos (nI_lt hc (by decide)) ?_
          refine z_eq (c_read hw ht (by omega)) ?_
          refine z_eq (z_aS jl_364 hc (by decide)) ?_
          rw [nI_1]
          refine kk _ ⟨i1.sI (by omega), fun j a b => ?_⟩
          by_cases e : j = c
          · subst e; rw [z_sIs, if_pos b]
          · rw [z_sIk _ _ _ _ e]; exact i2 j (by omega) b
        · intro m M' hI
          show z_ok (lp_Sp_wet_39 0 (m + 1) (nI 12) M') _
          rw [lp_Sp_wet_39, jp_0_10, jl_364]
          exact z_neg (by decide) (z_some ⟨hI.1, fun c hc => hI.2 c (by omega) hc⟩)
      · obtain ⟨i1, i2, i3, i4⟩ := hM'
        refine z_eq (z_bchk (Or.inr rfl)) (z_some ⟨rfl, ⟨z_sIs _ _ _ _, fun k hk => by omega⟩, (i1.wk (fun i q => ⟨q.1, q.2.2⟩)).sI (by omega), fun k hk => by rw [z_sIa _ _ _ _ (by decide)]; exact i2 k hk, by rw [z_sIa _ _ _ _ (by decide)]; exact i3, fun c hc => by rw [z_sIa _ _ _ _ (by decide)]; exact i4 c hc⟩)
    have sm : z_ok (f_Mo_wet 366 N) (fun r => r.1 = 1 ∧ z_tm 0 T r.2 ∧ z_Fr (fun i => i ≠ 366 ∧ i ≠ 405) N r.2 ∧ (∀ k, k ≠ 1 → k ≠ 65 → r.2.1 366 k = N.1 366 k) ∧ r.2.1 366 65 = nI 1 ∧ ∀ c, c < A 0 0 → r.2.1 405 c = nI (T c)) := by
      unfold f_Mo_wet
      have e31 : (sI N 366 1 0).1 366 31 = nI (A 0 0) := (z_sIk _ _ _ _ (by decide)).trans hM.1.1
      rw [e31, k.1, ← g2]
      refine z_neg (nI_ne0 (by omega) (by omega)) (z_pos rfl ?_)
      refine z_bind (P := fun N' => z_Fr (fun i => i ≠ 405) (sI N 366 1 0) N' ∧ ∀ c, c < n → N'.1 405 c = nI (T c)) ?_ (fun N' hN' => z_some ⟨rfl, ⟨?_, fun k hk => by omega⟩, ?_, fun q a b => ?_, z_sIs _ _ _ _, fun c hc => ?_⟩)
      · refine z_loop (fun m c s => lp_Mo_wet_29 366 (nI n) m c s) (fun c N' => z_Fr (fun i => i ≠ 405) (sI N 366 1 0) N' ∧ ∀ j, j < c → N'.1 405 j = nI (T j)) _ n ?_ ?_ jfuel 0 (sI N 366 1 0) (by omega) (by rw [z_jf]; omega) ⟨z_Fr.rf, fun j a => by omega⟩
        · intro m c N' hc hI kk
          obtain ⟨i1, i2⟩ := hI
          show z_ok (lp_Mo_wet_29 366 (nI n) (m + 1) (nI c) N') _
          rw [lp_Mo_wet_29, jm_0, jm_66]
          refine z_pos (nI_lt hc (by omega)) ?_
          refine z_eq (zi_367 _ (by omega)) ?_
          refine z_eq (zs_405 _ (by omega)) ?_
          rw [nI_1, i1.1 367 (by decide), z_sIa _ _ _ _ (by decide), k.2 c hc]
          refine kk _ ⟨i1.sI (by omega), fun j a => ?_⟩
          by_cases e : j = c
          · subst e; rw [z_sIs]
          · rw [z_sIk _ _ _ _ e]; exact i2 j (by omega)
        · intro m N' hI
          show z_ok (lp_Mo_wet_29 366 (nI n) (m + 1) (nI n) N') _
          rw [lp_Mo_wet_29]
          exact z_neg (nI_nlt (Nat.le_refl _) (by omega)) (z_some hI)
      · rw [z_sIk _ _ _ _ (by decide), hN'.1.1 366 (by decide)]; exact z_sIs _ _ _ _
      · refine ⟨fun i hi => ?_, hN'.1.2⟩
        rw [z_sIa _ _ _ _ hi.1, hN'.1.1 i hi.2, z_sIa _ _ _ _ hi.1]
      · rw [z_sIk _ _ _ _ b, hN'.1.1 366 (by decide), z_sIk _ _ _ _ a]
      · rw [z_sIa _ _ _ _ (by decide)]; exact hN'.2 c (by omega)
    obtain ⟨⟨v, M'⟩, ec, p1, p2, p3, p4, p5, p6⟩ := sc
    obtain ⟨⟨v', N'⟩, em, u1, u2, u3, u4, u5, u6⟩ := sm
    have p1 : v = 1 := p1
    have u1 : v' = 1 := u1
    subst p1; subst u1
    exact ⟨1, M', N', ec, em, p2, u2, p3, p4, u3, u4, Or.inl ⟨g1, g2, p5, u5, fun c hc => ⟨p6 c hc, u6 c hc⟩⟩⟩
  · refine ⟨0, sI M 1 1 0, sI N 366 1 0, ?_, ?_, ⟨z_sIs _ _ _ _, fun k hk => by omega⟩, ⟨z_sIs _ _ _ _, fun k hk => by omega⟩, z_Fr.rf.sI (by omega), fun _ _ => rfl, z_Fr.rf.sI (by omega), fun q a b => z_sIk _ _ _ _ a, Or.inr ⟨rfl, z_sIk _ _ _ _ (by decide), rfl, rfl⟩⟩
    · unfold f_Sp_wet
      rw [hC.2.1, hC.2.2.1.1, jp_0_0, h.1]
      by_cases c1 : 0 < A 0 0
      · rw [if_pos (show (0 : Int32) < nI (A 0 0) from nI_lt (a := 0) c1 (by omega)), if_neg (fun q => good ⟨c1, (nI_eq (by omega) (by omega)).mp q⟩)]; rfl
      · rw [show A 0 0 = 0 by omega]; rfl
    · unfold f_Mo_wet
      have e31 : (sI N 366 1 0).1 366 31 = nI (A 0 0) := (z_sIk _ _ _ _ (by decide)).trans hM.1.1
      rw [e31, k.1]
      by_cases c1 : 0 < A 0 0
      · rw [if_neg (nI_ne0 c1 (by omega)), if_neg (fun q => good ⟨c1, (nI_eq (by omega) (by omega)).mp q⟩)]
      · rw [show A 0 0 = 0 by omega]; rfl
end
