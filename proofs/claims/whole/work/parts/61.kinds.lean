/-! ===== pure: desks, mills, boats, claques, both ===== -/
def z_A3 (A : ZA) (i c v k : Nat) : ZA := z_uA (z_uA (z_uA A (3 + 2 * i) k c) (4 + 2 * i) k v) 0 (3 + i) (k + 1)
theorem z_A3_0 {A : ZA} {i c v k j : Nat} (h : j ≠ 3 + i) : z_A3 A i c v k 0 j = A 0 j := by
  unfold z_A3
  rw [z_uAn _ _ _ _ (by omega), z_uAn _ _ _ _ (by omega), z_uAn _ _ _ _ (by omega)]
theorem z_A3_k {A : ZA} {i c v k : Nat} : z_A3 A i c v k 0 (3 + i) = k + 1 := z_uAs _ _ _ _
def z_D2 (A : ZA) (v k : Nat) : ZA := z_uA (z_uA A 4 k v) 0 3 (k + 1)
theorem z_D2_0 {A : ZA} {v k j : Nat} (h : j ≠ 3) : z_D2 A v k 0 j = A 0 j := by
  unfold z_D2
  rw [z_uAn _ _ _ _ (by omega), z_uAn _ _ _ _ (by omega)]
theorem z_D2_k {A : ZA} {v k : Nat} : z_D2 A v k 0 3 = k + 1 := z_uAs _ _ _ _
section
variable {T : Nat → Nat} {n b R : Nat} {A : ZA} {nm nm' : Nat → Nat → Nat} {P P' : ZP} {M N M1 N1 N2 M' N' : SM}
theorem z_EE.many (h : z_EE R (z_dk A) (A 0 0) A M N) {i : Nat} (hi : i < 4) : N.1 385 i = nI (A 0 (3 + i)) := by
  have q := (h 0 (3 + i) (by decide) (by omega) (show 3 + i < 7 by omega)).2.1
  have e1 : z_mo 0 (3 + i) = 385 ∧ z_mp 0 (3 + i) = i := (by decide +kernel : ∀ i, i < 4 → z_mo 0 (3 + i) = 385 ∧ z_mp 0 (3 + i) = i) i hi
  rw [e1.1, e1.2] at q
  exact q
theorem m_full {i room x k : Nat} (hi : i < 4) (h5 : N.1 366 5 = 0) (hk : N.1 385 i = nI k) (hk8 : k ≤ 8) (hr : room ≤ 8) : f_Mo_isFull 366 (nI i) (nI room) (nI x) N = some (if k = room then (1, sI (sI N 366 5 (nI 5)) 366 6 (nI x)) else (0, N)) := by
  unfold f_Mo_isFull
  rw [if_pos h5, jm_28, zi_385 _ (by omega), hk]
  simp only [Option.bind_some]
  by_cases e : k = room
  · rw [if_pos (by rw [e]), if_pos e, zl_5, m_fail (f := 5) h5]
    simp only [Option.bind_some]
    rw [if_neg (by rw [z_sIk _ _ _ _ (by decide), z_sIs]; decide)]
  · rw [if_neg (fun q => e ((nI_eq (by omega) (by omega)).mp q)), if_neg e]
    simp only [Option.bind_some]
    rw [if_pos h5]
theorem c_add {s k c v : Nat} (hR : R = 7 ∨ R = 57) (hs : s = 30 ∨ s = 33 ∨ s = 36) (hk : k < 4) (h : M.1 (R + s) 2 = nI k) :
    f_St_add (R + s) (nI c) (nI v) M = some (sI (sI (sI M (R + (s + 1)) k (nI c)) (R + (s + 2)) k (nI v)) (R + s) 2 (nI (k + 1))) := by
  unfold f_St_add
  rcases hs with rfl | rfl | rfl
  · rw [jo_30_0 hR, jo_30_1 hR, h, zpo_31 hR _ hk]
    simp only [Option.bind_some]
    rw [z_sIa _ _ _ _ (show R + 30 ≠ R + 31 by omega), h, zpo_32 hR _ hk]
    simp only [Option.bind_some]
    rw [z_sIa _ _ _ _ (show R + 30 ≠ R + 32 by omega), z_sIa _ _ _ _ (show R + 30 ≠ R + 31 by omega), h, nI_1]
  · rw [jo_33_0 hR, jo_33_1 hR, h, zpo_34 hR _ hk]
    simp only [Option.bind_some]
    rw [z_sIa _ _ _ _ (show R + 33 ≠ R + 34 by omega), h, zpo_35 hR _ hk]
    simp only [Option.bind_some]
    rw [z_sIa _ _ _ _ (show R + 33 ≠ R + 35 by omega), z_sIa _ _ _ _ (show R + 33 ≠ R + 34 by omega), h, nI_1]
  · rw [jo_36_0 hR, jo_36_1 hR, h, zpo_37 hR _ hk]
    simp only [Option.bind_some]
    rw [z_sIa _ _ _ _ (show R + 36 ≠ R + 37 by omega), h, zpo_38 hR _ hk]
    simp only [Option.bind_some]
    rw [z_sIa _ _ _ _ (show R + 36 ≠ R + 38 by omega), z_sIa _ _ _ _ (show R + 36 ≠ R + 37 by omega), h, nI_1]
theorem z_EE.st {i c v k : Nat} (hi : 1 ≤ i ∧ i ≤ 3) (h : z_EE R (z_dk A) (A 0 0) A M N) (hk : A 0 (3 + i) = k) (hk4 : k < 4) (hc : c < A 0 0) (hv : v ≤ 9 ∨ (i < 3 ∧ v ≤ 99)) :
    z_EE R (z_dk (z_A3 A i c v k)) (A 0 0) (z_A3 A i c v k) (sI (sI (sI M (R + z_co (3 + 2 * i) k) (z_ck (3 + 2 * i) k) (nI c)) (R + z_co (4 + 2 * i) k) (z_ck (4 + 2 * i) k) (nI v)) (R + z_co 0 (3 + i)) (z_ck 0 (3 + i)) (nI (k + 1)))
      (sI (sI (sI N (z_mo (3 + 2 * i) k) (z_mp (3 + 2 * i) k) (nI c)) (z_mo (4 + 2 * i) k) (z_mp (4 + 2 * i) k) (nI v)) (z_mo 0 (3 + i)) (z_mp 0 (3 + i)) (nI (k + 1))) := by
  have b1 : z_bd (A 0 0) (3 + 2 * i) k c := by
    have : i = 1 ∨ i = 2 ∨ i = 3 := by omega
    rcases this with rfl | rfl | rfl <;> exact hc
  have b2 : z_bd (A 0 0) (4 + 2 * i) k v := by
    have : i = 1 ∨ i = 2 ∨ i = 3 := by omega
    rcases this with rfl | rfl | rfl
    · show v ≤ 99; omega
    · show v ≤ 99; omega
    · show v ≤ 9; omega
  have b3 : z_bd (A 0 0) 0 (3 + i) (k + 1) := ⟨fun e => by omega, fun e => by omega, fun e => by omega, fun e => by omega, fun _ => by omega⟩
  refine (((h.up (by omega) (by omega) b1).up (by omega) (by omega) b2).up (by decide) (by omega) b3).wk (fun i' k' hi' hk' hd => ?_)
  rcases z_dk.up (by omega) z_A3_k hk (fun j _ hj => z_A3_0 hj) hi' hd with q | ⟨q1, q2⟩
  · exact Or.inl (Or.inl (Or.inl q))
  · rcases q2 with ⟨q2, _⟩ | ⟨_, q2 | q2⟩
    · omega
    · exact Or.inl (Or.inl (Or.inr ⟨q2, q1⟩))
    · exact Or.inl (Or.inr ⟨q2, q1⟩)
/-- one of a kind more -/
theorem z_ST.stand {i c v k : Nat} (hi : 1 ≤ i ∧ i ≤ 3) (hQ : z_QB R A nm P M1 N1) (hB : z_BT T n b M1 N1) (C : z_YC R M M1) (Y : z_YN N N2) (S : z_SF M M1) (e2 : N2.1 = N1.1) (hk : A 0 (3 + i) = k) (hk4 : k < 4) (hc : c < A 0 0) (hv : v ≤ 9 ∨ (i < 3 ∧ v ≤ 99))
    (n1 : z_nC R (z_A3 A i c v k) nm' M1) (n2 : z_nM (z_A3 A i c v k) nm' N2) (n3 : z_nk (z_A3 A i c v k) nm') :
    z_ST T n R A M N 1 (sI (sI (sI M1 (R + z_co (3 + 2 * i) k) (z_ck (3 + 2 * i) k) (nI c)) (R + z_co (4 + 2 * i) k) (z_ck (4 + 2 * i) k) (nI v)) (R + z_co 0 (3 + i)) (z_ck 0 (3 + i)) (nI (k + 1)))
      (sI (sI (sI N2 (z_mo (3 + 2 * i) k) (z_mp (3 + 2 * i) k) (nI c)) (z_mo (4 + 2 * i) k) (z_mp (4 + 2 * i) k) (nI v)) (z_mo 0 (3 + i)) (z_mp 0 (3 + i)) (nI (k + 1))) := by
  obtain ⟨h1, h2, h3, h4, h5, h6, h7, h8, h9⟩ := hQ
  have h3' : z_EE R (z_dk A) (A 0 0) A M1 N2 := h3.fr (fun _ _ => rfl) (fun _ _ _ _ => by rw [e2]) (by rw [e2])
  have hd8 := h3.nA rfl
  have c1 : ∀ i, 1 ≤ i ∧ i ≤ 3 → ∀ k, k < 4 → (z_co (3 + 2 * i) k = 28 + 3 * i ∧ z_co (4 + 2 * i) k = 29 + 3 * i ∧ z_co 0 (3 + i) = 27 + 3 * i ∧ z_mo (3 + 2 * i) k = 391 + i ∧ z_mo (4 + 2 * i) k = 391 + i ∧ z_mo 0 (3 + i) = 385 ∧ z_mp (3 + 2 * i) k = 2 * k ∧ z_mp (4 + 2 * i) k = 2 * k + 1 ∧ z_mp 0 (3 + i) = i) := by
    intro i hi
    have : i = 1 ∨ i = 2 ∨ i = 3 := by omega
    rcases this with rfl | rfl | rfl <;> decide +kernel
  obtain ⟨d1, d2, d3, d4, d5, d6, d7, d8, d9⟩ := c1 i hi k hk4
  have E := z_EE.st hi h3' hk hk4 hc hv
  rw [d1, d2, d3, d4, d5, d6, d7, d8, d9] at E ⊢
  have th : 2 * k + 1 < z_th (391 + i) := by
    have : i = 1 ∨ i = 2 ∨ i = 3 := by omega
    rcases this with rfl | rfl | rfl
    · show 2 * k + 1 < 8; omega
    · show 2 * k + 1 < 8; omega
    · show 2 * k + 1 < 8; omega
  refine ⟨((C.s (by omega) (by omega) (Or.inl (by omega))).s (by omega) (by omega) (Or.inl (by omega))).s (by omega) (by omega) (Or.inl (by omega)), ((Y.s (z_pn (by omega) (by omega) (by omega))).s (z_pn (by omega) (by omega) th)).s (z_pn (by decide) (by decide) (show i < 4 by omega)), Or.inl ⟨rfl, ⟨b, ?_⟩, ((S.s (by omega)).s (by omega)).s (by omega), z_A3 A i c v k, nm', P, z_A3_0 (by omega), h1, ?_, ?_, fun j w hj hw q hq => ?_, n2, n3, ?_, ?_, ?_⟩⟩
  · have hB2 : z_BT T n b M1 N2 := hB.fr rfl rfl rfl rfl (fun _ _ => by rw [e2]) (by rw [e2])
    exact ((hB2.s (by omega) (by omega)).s (by omega) (by omega)).s (by omega) (by omega)
  · rw [z_sIa _ _ _ _ (by omega), z_sIa _ _ _ _ (by omega), z_sIa _ _ _ _ (by omega)]; exact h2
  · rw [z_A3_0 (by omega)]; exact E
  · have hw8 : w < 8 := by
      by_cases e : j = i
      · subst e
        rw [z_A3_k] at hw; omega
      · rw [z_A3_0 (by omega)] at hw
        have := hd8 j hj; omega
    rw [z_sIa _ _ _ _ (by omega), z_sIa _ _ _ _ (by omega), z_sIa _ _ _ _ (by omega)]; exact n1 j w hj hw q hq
  · rw [z_A3_0 (by omega)]
    intro d hd
    have := hd8 0 (by decide)
    rw [z_sIa _ _ _ _ (by omega), z_sIa _ _ _ _ (by omega), z_sIa _ _ _ _ (by omega), z_sIa _ _ _ _ (by omega), z_sIa _ _ _ _ (by omega), z_sIa _ _ _ _ (by omega)]; exact h7 d hd
  · rw [z_A3_0 (by omega)]
    intro d hd
    rw [z_sIa _ _ _ _ (by omega), z_sIa _ _ _ _ (by omega), z_sIa _ _ _ _ (by omega), e2]; exact h8 d hd
  · rw [z_A3_0 (by omega)]; exact h9
theorem z_sIL (M : SM) (a k a' k' : Nat) (v : Int32) (w : Int64) : sL (sI M a k v) a' k' w = sI (sL M a' k' w) a k v := rfl
/-- reading on behind a NAME -/
theorem z_QB.na {i : Nat} (hQ : z_QB R A nm P M N) (hi : i < 3) (hf : A 0 (3 + i) < 8) (k : z_Fr (fun j => j ≠ 3 ∧ j ≠ 4 ∧ j ≠ R + 6 + (8 * i + A 0 (3 + i))) M M') (x : z_LX N N') : z_QB R A nm P M' N' := by
  obtain ⟨h1, h2, h3, h4, h5, h6, h7, h8, h9⟩ := hQ
  have hn8 := h3.nA rfl
  refine ⟨h1, by rw [k.1 107 ⟨by decide, by decide, by omega⟩]; exact h2, ?_, fun j w hj hw q hq => ?_, fun j w hj hw => ?_, h6, fun d hd => ?_, fun d hd => ?_, h9⟩
  · intro i' k' hi' hk' hD
    obtain ⟨g1, g2, g3⟩ := h3 i' k' hi' hk' hD
    have : z_co i' k' < 5 ∨ 30 ≤ z_co i' k' := (by decide +kernel : ∀ i, i < 11 → ∀ k, k < 12 → z_co i k < 5 ∨ 30 ≤ z_co i k) i' hi' k' hk'
    refine ⟨by rw [k.1 _ ⟨by omega, by omega, by omega⟩]; exact g1, ?_, g3⟩
    rcases z_mo_in i' hi' k' hk' with ⟨e1, e2⟩ | ⟨e1, e2, e3⟩
    · rw [e1, e2] at g2
      rw [e1, e2, x.2 30 (by decide)]; exact g2
    · rw [x.1.1 _ (by omega)]; exact g2
  · have := hn8 j hj
    have ne : 8 * j + w ≠ 8 * i + A 0 (3 + i) := by
      by_cases e : j = i
      · subst e; omega
      · omega
    rw [k.1 _ ⟨by omega, by omega, by omega⟩]; exact h4 j w hj hw q hq
  · rw [x.1.2]; exact h5 j w hj hw
  · rw [k.1 _ ⟨by omega, by omega, by omega⟩, k.1 _ ⟨by omega, by omega, by omega⟩]; exact h7 d hd
  · rw [x.1.1 391 (by decide)]; exact h8 d hd
theorem z_nyc {i : Nat} (hR : R = 7 ∨ R = 57) (hi : i < 3) (hf : A 0 (3 + i) < 8) (k : z_Fr (fun j => j ≠ 3 ∧ j ≠ 4 ∧ j ≠ R + 6 + (8 * i + A 0 (3 + i))) M M') : z_YC R M M' := ⟨k.wk (fun j q => ⟨q.1, q.2.1, by omega⟩), fun _ => by rw [k.1 R ⟨by omega, by omega, by omega⟩]⟩
theorem z_bt5 (h : z_BT T n b M N) : N.1 366 5 = 0 := by obtain ⟨_, _, _, a, r⟩ := h; exact r.2.2.2.2.2.1

theorem z_str_mill : jsln 1008 = nI ([110, 101, 101, 100, 115] : List Nat).length ∧ (∀ i, i < ([110, 101, 101, 100, 115] : List Nat).length → jsch 1008 (nI (0 + i)) = some (nI (([110, 101, 101, 100, 115] : List Nat).getD i 0))) := by decide +kernel
theorem g_mill (hw : z_wt n T) (h : z_BT T n b M N) (hK : z_KW N) (hQ : z_QB R A nm P M N) (hf : A 0 4 < 4) {x : Nat} :
    z2 (f_Or_takeStand 107 (R + 30) 1 1008 99 M) (f_Mo_millTold 366 (nI x) N) (fun q N' => z_ST T n R A M N q.1 q.2 N') := by
  have hb := hQ.2.2.1.b rfl
  have hR := hQ.1
  have hm := hQ.2.2.1.many (i := 1) (by decide)
  unfold f_Or_takeStand f_Mo_millTold
  refine z2_ln (by decide) ?_
  refine z2_r (m_full (i := 1) (room := 4) (by decide) (z_bt5 h) hm (by show A 0 4 ≤ 8; omega) (by decide)) ?_
  rw [if_neg (show ¬ A 0 (3 + 1) = 4 by show ¬ A 0 4 = 4; omega)]
  refine z2_rp rfl ?_
  rw [jm_28, jp_107_0, jm_12, jm_20, jm_29, jm_37]
  refine z2_r (zi_385 _ (k := 1) (by decide)) ?_
  have hf4 := hf
  have hf : A 0 (3 + 1) < 8 := by show A 0 4 < 8; omega
  refine z2_b (g_name hw h hK hQ (i := 1) (by decide) hf) (fun q r hq => ?_)
  obtain ⟨r0, hq⟩ := hq
  rcases hq with ⟨q1, q2, q3, q4, f, f1, f2, f3⟩ | ⟨q1, q2, q3, _⟩
  · rw [q1]
    refine z2_ln z_10 ?_
    have hQ1 := hQ.na (i := 1) (by decide) hf q4 r0
    have hK1 := hK.lx r0
    refine z2_b (g_ask hw q2 hK1 (p := (12, [97, 116])) (by decide) z_str_at) (fun s N2 hs => ?_)
    obtain ⟨s0, t0, hs⟩ := hs
    rcases hs with ⟨s1, s2, s3⟩ | ⟨s1, s2, _⟩
    · rw [s1]
      refine z2_ln z_10 ?_
      have hQ2 := hQ1.re s0 t0
      have hK2 := hK1.lx t0
      refine z2_b (g_cellTold hw s2 hQ2) (fun u w hu => ?_)
      obtain ⟨u0, w0, hu⟩ := hu
      rcases hu with ⟨c, u1, u2, u3, u4, u5⟩ | ⟨u1, u2, _⟩
      · rw [u1]
        refine z2_ln (z_lt0n (by omega)) ?_
        have hQ3 := hQ2.re u0 w0
        have hK3 := hK2.lx w0
        refine z2_b (g_ask hw u4 hK3 (p := (20, [110, 101, 101, 100, 115])) (by decide) z_str_mill) (fun g N4 hg => ?_)
        obtain ⟨g0, y0, hg⟩ := hg
        rcases hg with ⟨g1, g2, g3⟩ | ⟨g1, g2, _⟩
        · rw [g1]
          refine z2_ln z_10 ?_
          have hQ4 := hQ3.re g0 y0
          refine z2_b (g_num (lo := 1) (hi := 99) hw g2 (by decide) (by decide)) (fun p' r' hp => ?_)
          obtain ⟨p0, l0, hp⟩ := hp
          rcases hp with ⟨v, p1, p2, p3, p4, p5, p6, _⟩ | ⟨p1, p2, _⟩
          · have hQ5 := hQ4.re p0 l0
            have C : z_YC R M p'.2 := ((((z_nyc (i := 1) hR (by decide) hf q4).tr s0.yc).tr u0.yc).tr g0.yc).tr p0.yc
            have Y : z_YN N r'.2 := (((r0.yn.tr t0.yn).tr w0.yn).tr y0.yn).tr l0.yn
            have S : z_SF M p'.2 := (((q3.tr s3).tr u5).tr g3).tr p6
            have hm5 := hQ5.2.2.1.many (i := 1) (by decide)
            have hO5 := hQ5.2.2.1.oc rfl
            have cnt : p'.2.1 (R + 30) 2 = nI (A 0 4) := by have := hQ5.2.2.1 0 4 (by decide) (by decide) (show 4 < 7 by decide); exact this.1
            have Lf : ∀ k, k < 6 → p'.2.1 (R + 6 + (8 * 1 + A 0 (3 + 1))) k = nI (if f k = 0 then 0 else f k + 96) := fun k hk => by
              rw [p0.1 _ ⟨by omega, by omega⟩, g0.1 _ ⟨by omega, by omega⟩, u0.1 _ ⟨by omega, by omega⟩, s0.1 _ ⟨by omega, by omega⟩]; exact f2 k hk
            have nn := z_names (A' := z_A3 A 1 c v (A 0 4)) (i := 1) (f := f) (M' := p'.2) (N' := sL r'.2 386 (8 * 1 + A 0 4) r.1) (hQ5.2.2.1.nA rfl) hf z_A3_k (fun j hj hne => z_A3_0 (by omega)) (by decide) hQ5.2.2.2.1 hQ5.2.2.2.2.1 hQ5.2.2.2.2.2.1 f1 Lf (fun _ _ _ => rfl) (by rw [z_sL, if_pos rfl, if_pos rfl]; exact f3) (fun k hk hne => by rw [z_sL, if_pos rfl, if_neg hne])
            rw [p1, p2, u2, hm]
            refine z2_ln (z_lt0n (by omega)) (z2_rp (z_bt5 p5) ?_)
            refine z2_l (c_add (s := 30) hR (by decide) hf4 cnt) ?_
            rw [show (8 : Int32) = nI 8 from rfl, zl_2, z_add, z_mul, zl_1, z_add]
            refine z2_r (zs_386 _ (by omega)) (z2_r (zs_392 _ (by omega)) (z2_r (zs_392 _ (by omega)) (z2_r (zi_385 _ (k := 1) (by decide)) ?_)))
            rw [z_sIa _ _ _ _ (by decide), z_sIa _ _ _ _ (by decide), z_sL2, hm5, z_add]
            refine z2_r (zs_385 _ (k := 1) (by decide)) (z2_some ?_)
            exact z_ST.stand (i := 1) (by decide) hQ5 p5 C (Y.l (by omega)) S rfl rfl hf4 u3 (Or.inr ⟨by decide, p4⟩) nn.1 nn.2.1 nn.2.2
          · rw [p1]
            refine z2_lp z_m1 (z2_rn p2.bad (z2_some (z_ST.ff (((((z_nyc (i := 1) hR (by decide) hf q4).tr s0.yc).tr u0.yc).tr g0.yc).tr p0.yc) ((((r0.yn.tr t0.yn).tr w0.yn).tr y0.yn).tr l0.yn) p2)))
        · rw [g1]
          refine z2_lp rfl (z2_r (b_num g2.bad) (z2_rn g2.bad (z2_some (z_ST.ff ((((z_nyc (i := 1) hR (by decide) hf q4).tr s0.yc).tr u0.yc).tr g0.yc) (((r0.yn.tr t0.yn).tr w0.yn).tr y0.yn) g2))))
      · rw [u1]
        refine z2_lp z_m1 (z2_r (b_asks u2.bad) (z2_r (b_num u2.bad) (z2_rn u2.bad (z2_some (z_ST.ff (((z_nyc (i := 1) hR (by decide) hf q4).tr s0.yc).tr u0.yc) ((r0.yn.tr t0.yn).tr w0.yn) u2)))))
    · rw [s1]
      refine z2_lp rfl (z2_r (b_cell s2.bad) (z2_r (b_asks s2.bad) (z2_r (b_num s2.bad) (z2_rn s2.bad (z2_some (z_ST.ff ((z_nyc (i := 1) hR (by decide) hf q4).tr s0.yc) (r0.yn.tr t0.yn) s2))))))
  · rw [q1]
    refine z2_lp rfl (z2_r (b_asks q2.bad) (z2_r (b_cell q2.bad) (z2_r (b_asks q2.bad) (z2_r (b_num q2.bad) (z2_rn q2.bad (z2_some (z_ST.ff q3.yc r0.yn q2)))))))

theorem z_str_boat : jsln 1009 = nI ([100, 114, 97, 102, 116] : List Nat).length ∧ (∀ i, i < ([100, 114, 97, 102, 116] : List Nat).length → jsch 1009 (nI (0 + i)) = some (nI (([100, 114, 97, 102, 116] : List Nat).getD i 0))) := by decide +kernel
theorem g_bt4 (hw : z_wt n T) (h : z_BT T n b M N) (hK : z_KW N) (hQ : z_QB R A nm P M N) (hf : A 0 5 < 4) {x : Nat} :
    z2 (f_Or_takeStand 107 (R + 33) 2 1009 99 M) (f_Mo_boatTold 366 (nI x) N) (fun q N' => z_ST T n R A M N q.1 q.2 N') := by
  have hb := hQ.2.2.1.b rfl
  have hR := hQ.1
  have hm := hQ.2.2.1.many (i := 2) (by decide)
  unfold f_Or_takeStand f_Mo_boatTold
  refine z2_ln (by decide) ?_
  refine z2_r (m_full (i := 2) (room := 4) (by decide) (z_bt5 h) hm (by show A 0 5 ≤ 8; omega) (by decide)) ?_
  rw [if_neg (show ¬ A 0 (3 + 2) = 4 by show ¬ A 0 5 = 4; omega)]
  refine z2_rp rfl ?_
  rw [jm_28, jp_107_0, jm_12, jm_22, jm_29, jm_38]
  refine z2_r (zi_385 _ (k := 2) (by decide)) ?_
  have hf4 := hf
  have hf : A 0 (3 + 2) < 8 := by show A 0 5 < 8; omega
  refine z2_b (g_name hw h hK hQ (i := 2) (by decide) hf) (fun q r hq => ?_)
  obtain ⟨r0, hq⟩ := hq
  rcases hq with ⟨q1, q2, q3, q4, f, f1, f2, f3⟩ | ⟨q1, q2, q3, _⟩
  · rw [q1]
    refine z2_ln z_10 ?_
    have hQ1 := hQ.na (i := 2) (by decide) hf q4 r0
    have hK1 := hK.lx r0
    refine z2_b (g_ask hw q2 hK1 (p := (12, [97, 116])) (by decide) z_str_at) (fun s N2 hs => ?_)
    obtain ⟨s0, t0, hs⟩ := hs
    rcases hs with ⟨s1, s2, s3⟩ | ⟨s1, s2, _⟩
    · rw [s1]
      refine z2_ln z_10 ?_
      have hQ2 := hQ1.re s0 t0
      have hK2 := hK1.lx t0
      refine z2_b (g_cellTold hw s2 hQ2) (fun u w hu => ?_)
      obtain ⟨u0, w0, hu⟩ := hu
      rcases hu with ⟨c, u1, u2, u3, u4, u5⟩ | ⟨u1, u2, _⟩
      · rw [u1]
        refine z2_ln (z_lt0n (by omega)) ?_
        have hQ3 := hQ2.re u0 w0
        have hK3 := hK2.lx w0
        refine z2_b (g_ask hw u4 hK3 (p := (22, [100, 114, 97, 102, 116])) (by decide) z_str_boat) (fun g N4 hg => ?_)
        obtain ⟨g0, y0, hg⟩ := hg
        rcases hg with ⟨g1, g2, g3⟩ | ⟨g1, g2, _⟩
        · rw [g1]
          refine z2_ln z_10 ?_
          have hQ4 := hQ3.re g0 y0
          refine z2_b (g_num (lo := 1) (hi := 99) hw g2 (by decide) (by decide)) (fun p' r' hp => ?_)
          obtain ⟨p0, l0, hp⟩ := hp
          rcases hp with ⟨v, p1, p2, p3, p4, p5, p6, _⟩ | ⟨p1, p2, _⟩
          · have hQ5 := hQ4.re p0 l0
            have C : z_YC R M p'.2 := ((((z_nyc (i := 2) hR (by decide) hf q4).tr s0.yc).tr u0.yc).tr g0.yc).tr p0.yc
            have Y : z_YN N r'.2 := (((r0.yn.tr t0.yn).tr w0.yn).tr y0.yn).tr l0.yn
            have S : z_SF M p'.2 := (((q3.tr s3).tr u5).tr g3).tr p6
            have hm5 := hQ5.2.2.1.many (i := 2) (by decide)
            have hO5 := hQ5.2.2.1.oc rfl
            have cnt : p'.2.1 (R + 33) 2 = nI (A 0 5) := by have := hQ5.2.2.1 0 5 (by decide) (by decide) (show 5 < 7 by decide); exact this.1
            have Lf : ∀ k, k < 6 → p'.2.1 (R + 6 + (8 * 2 + A 0 (3 + 2))) k = nI (if f k = 0 then 0 else f k + 96) := fun k hk => by
              rw [p0.1 _ ⟨by omega, by omega⟩, g0.1 _ ⟨by omega, by omega⟩, u0.1 _ ⟨by omega, by omega⟩, s0.1 _ ⟨by omega, by omega⟩]; exact f2 k hk
            have nn := z_names (A' := z_A3 A 2 c v (A 0 5)) (i := 2) (f := f) (M' := p'.2) (N' := sL r'.2 386 (8 * 2 + A 0 5) r.1) (hQ5.2.2.1.nA rfl) hf z_A3_k (fun j hj hne => z_A3_0 (by omega)) (by decide) hQ5.2.2.2.1 hQ5.2.2.2.2.1 hQ5.2.2.2.2.2.1 f1 Lf (fun _ _ _ => rfl) (by rw [z_sL, if_pos rfl, if_pos rfl]; exact f3) (fun k hk hne => by rw [z_sL, if_pos rfl, if_neg hne])
            rw [p1, p2, u2, hm]
            refine z2_ln (z_lt0n (by omega)) (z2_rp (z_bt5 p5) ?_)
            refine z2_l (c_add (s := 33) hR (by decide) hf4 cnt) ?_
            rw [show (16 : Int32) = nI 16 from rfl, zl_2, z_add, z_mul, zl_1, z_add]
            refine z2_r (zs_386 _ (by omega)) (z2_r (zs_393 _ (by omega)) (z2_r (zs_393 _ (by omega)) (z2_r (zi_385 _ (k := 2) (by decide)) ?_)))
            rw [z_sIa _ _ _ _ (by decide), z_sIa _ _ _ _ (by decide), z_sL2, hm5, z_add]
            refine z2_r (zs_385 _ (k := 2) (by decide)) (z2_some ?_)
            exact z_ST.stand (i := 2) (by decide) hQ5 p5 C (Y.l (by omega)) S rfl rfl hf4 u3 (Or.inr ⟨by decide, p4⟩) nn.1 nn.2.1 nn.2.2
          · rw [p1]
            refine z2_lp z_m1 (z2_rn p2.bad (z2_some (z_ST.ff (((((z_nyc (i := 2) hR (by decide) hf q4).tr s0.yc).tr u0.yc).tr g0.yc).tr p0.yc) ((((r0.yn.tr t0.yn).tr w0.yn).tr y0.yn).tr l0.yn) p2)))
        · rw [g1]
          refine z2_lp rfl (z2_r (b_num g2.bad) (z2_rn g2.bad (z2_some (z_ST.ff ((((z_nyc (i := 2) hR (by decide) hf q4).tr s0.yc).tr u0.yc).tr g0.yc) (((r0.yn.tr t0.yn).tr w0.yn).tr y0.yn) g2))))
      · rw [u1]
        refine z2_lp z_m1 (z2_r (b_asks u2.bad) (z2_r (b_num u2.bad) (z2_rn u2.bad (z2_some (z_ST.ff (((z_nyc (i := 2) hR (by decide) hf q4).tr s0.yc).tr u0.yc) ((r0.yn.tr t0.yn).tr w0.yn) u2)))))
    · rw [s1]
      refine z2_lp rfl (z2_r (b_cell s2.bad) (z2_r (b_asks s2.bad) (z2_r (b_num s2.bad) (z2_rn s2.bad (z2_some (z_ST.ff ((z_nyc (i := 2) hR (by decide) hf q4).tr s0.yc) (r0.yn.tr t0.yn) s2))))))
  · rw [q1]
    refine z2_lp rfl (z2_r (b_asks q2.bad) (z2_r (b_cell q2.bad) (z2_r (b_asks q2.bad) (z2_r (b_num q2.bad) (z2_rn q2.bad (z2_some (z_ST.ff q3.yc r0.yn q2)))))))

theorem z_str_claque : jsln 1010 = nI ([100, 114, 105, 110, 107, 115] : List Nat).length ∧ (∀ i, i < ([100, 114, 105, 110, 107, 115] : List Nat).length → jsch 1010 (nI (0 + i)) = some (nI (([100, 114, 105, 110, 107, 115] : List Nat).getD i 0))) := by decide +kernel
theorem g_claque (hw : z_wt n T) (h : z_BT T n b M N) (hK : z_KW N) (hQ : z_QB R A nm P M N) (hf4 : A 0 6 < 4) {x : Nat} :
    z2 (f_Or_takeStand 107 (R + 36) (-1) 1010 9 M) (f_Mo_claqueTold 366 (nI x) N) (fun q N' => z_ST T n R A M N q.1 q.2 N') := by
  have hb := hQ.2.2.1.b rfl
  have hR := hQ.1
  have hm := hQ.2.2.1.many (i := 3) (by decide)
  unfold f_Or_takeStand f_Mo_claqueTold
  refine z2_lp rfl ?_
  refine z2_r (m_full (i := 3) (room := 4) (by decide) (z_bt5 h) hm (by show A 0 6 ≤ 8; omega) (by decide)) ?_
  rw [if_neg (show ¬ A 0 (3 + 3) = 4 by show ¬ A 0 6 = 4; omega)]
  refine z2_rp rfl ?_
  rw [jm_28, jp_107_0, jm_12, jm_24, jm_39]
  refine z2_r (zi_385 _ (k := 3) (by decide)) ?_
  refine z2_b (g_ask hw h hK (p := (12, [97, 116])) (by decide) z_str_at) (fun s N2 hs => ?_)
  obtain ⟨s0, t0, hs⟩ := hs
  rcases hs with ⟨s1, s2, s3⟩ | ⟨s1, s2, _⟩
  · rw [s1]
    refine z2_ln z_10 ?_
    have hQ2 := hQ.re s0 t0
    have hK2 := hK.lx t0
    refine z2_b (g_cellTold hw s2 hQ2) (fun u w hu => ?_)
    obtain ⟨u0, w0, hu⟩ := hu
    rcases hu with ⟨c, u1, u2, u3, u4, u5⟩ | ⟨u1, u2, _⟩
    · rw [u1]
      refine z2_ln (z_lt0n (by omega)) ?_
      have hQ3 := hQ2.re u0 w0
      have hK3 := hK2.lx w0
      refine z2_b (g_ask hw u4 hK3 (p := (24, [100, 114, 105, 110, 107, 115])) (by decide) z_str_claque) (fun g N4 hg => ?_)
      obtain ⟨g0, y0, hg⟩ := hg
      rcases hg with ⟨g1, g2, g3⟩ | ⟨g1, g2, _⟩
      · rw [g1]
        refine z2_ln z_10 ?_
        have hQ4 := hQ3.re g0 y0
        refine z2_b (g_num (lo := 1) (hi := 9) hw g2 (by decide) (by decide)) (fun p' r' hp => ?_)
        obtain ⟨p0, l0, hp⟩ := hp
        rcases hp with ⟨v, p1, p2, p3, p4, p5, p6, _⟩ | ⟨p1, p2, _⟩
        · have hQ5 := hQ4.re p0 l0
          have C : z_YC R M p'.2 := ((s0.yc.tr u0.yc).tr g0.yc).tr p0.yc
          have Y : z_YN N r'.2 := ((t0.yn.tr w0.yn).tr y0.yn).tr l0.yn
          have S : z_SF M p'.2 := ((s3.tr u5).tr g3).tr p6
          have hm5 := hQ5.2.2.1.many (i := 3) (by decide)
          have cnt : p'.2.1 (R + 36) 2 = nI (A 0 6) := by have := hQ5.2.2.1 0 6 (by decide) (by decide) (show 6 < 7 by decide); exact this.1
          have ne : ∀ j, j < 3 → z_A3 A 3 c v (A 0 6) 0 (3 + j) = A 0 (3 + j) := fun j hj => z_A3_0 (by omega)
          rw [p1, p2, u2, hm]
          refine z2_ln (z_lt0n (by omega)) (z2_rp (z_bt5 p5) ?_)
          refine z2_l (c_add (s := 36) hR (by decide) hf4 cnt) ?_
          rw [zl_2, z_mul, zl_1, z_add]
          have hf5 : A 0 (3 + 3) < 4 := hf4
          refine z2_r (zs_394 _ (by omega)) (z2_r (zs_394 _ (by omega)) (z2_r (zi_385 _ (k := 3) (by decide)) ?_))
          rw [z_sIa _ _ _ _ (by decide), z_sIa _ _ _ _ (by decide), hm5, z_add]
          refine z2_r (zs_385 _ (k := 3) (by decide)) (z2_some ?_)
          exact z_ST.stand (i := 3) (nm' := nm) (by decide) hQ5 p5 C Y S rfl rfl hf4 u3 (Or.inl p4) (fun j w hj hw => by rw [ne j hj] at hw; exact hQ5.2.2.2.1 j w hj hw) (fun j w hj hw => by rw [ne j hj] at hw; exact hQ5.2.2.2.2.1 j w hj hw) (fun j w hj hw => by rw [ne j hj] at hw; exact hQ5.2.2.2.2.2.1 j w hj hw)
        · rw [p1]
          refine z2_lp z_m1 (z2_rn p2.bad (z2_some (z_ST.ff (((s0.yc.tr u0.yc).tr g0.yc).tr p0.yc) (((t0.yn.tr w0.yn).tr y0.yn).tr l0.yn) p2)))
      · rw [g1]
        refine z2_lp rfl (z2_r (b_num g2.bad) (z2_rn g2.bad (z2_some (z_ST.ff ((s0.yc.tr u0.yc).tr g0.yc) ((t0.yn.tr w0.yn).tr y0.yn) g2))))
    · rw [u1]
      refine z2_lp z_m1 (z2_r (b_asks u2.bad) (z2_r (b_num u2.bad) (z2_rn u2.bad (z2_some (z_ST.ff (s0.yc.tr u0.yc) (t0.yn.tr w0.yn) u2)))))
  · rw [s1]
    refine z2_lp rfl (z2_r (b_cell s2.bad) (z2_r (b_asks s2.bad) (z2_r (b_num s2.bad) (z2_rn s2.bad (z2_some (z_ST.ff s0.yc t0.yn s2))))))
end
