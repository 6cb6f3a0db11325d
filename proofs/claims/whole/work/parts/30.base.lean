/-! ===== pure: the grammar of proofs over the functions ===== -/
def z_ok {α : Type} (o : Option α) (Q : α → Prop) : Prop := ∃ r, o = some r ∧ Q r
theorem z_some {α : Type} {r : α} {Q : α → Prop} (h : Q r) : z_ok (some r) Q := ⟨r, rfl, h⟩
theorem z_bind {α β : Type} {o : Option α} {f : α → Option β} {P : α → Prop} {Q : β → Prop} (h : z_ok o P) (k : ∀ r, P r → z_ok (f r) Q) : z_ok (o.bind f) Q := by
  obtain ⟨r, e, p⟩ := h
  rw [e]
  exact k r p
theorem z_eq {α β : Type} {o : Option α} {f : α → Option β} {r : α} {Q : β → Prop} (h : o = some r) (k : z_ok (f r) Q) : z_ok (o.bind f) Q := by
  rw [h]; exact k
theorem z_mono {α : Type} {o : Option α} {P Q : α → Prop} (h : z_ok o P) (k : ∀ r, P r → Q r) : z_ok o Q := by
  obtain ⟨r, e, p⟩ := h
  exact ⟨r, e, k r p⟩
theorem z_ite {α : Type} {c : Prop} [Decidable c] {a b : Option α} {Q : α → Prop} (h1 : c → z_ok a Q) (h2 : ¬ c → z_ok b Q) : z_ok (if c then a else b) Q := by
  by_cases h : c
  · rw [if_pos h]; exact h1 h
  · rw [if_neg h]; exact h2 h
theorem z_pos {α : Type} {c : Prop} [Decidable c] {a b : Option α} {Q : α → Prop} (h : c) (k : z_ok a Q) : z_ok (if c then a else b) Q := by rw [if_pos h]; exact k
theorem z_neg {α : Type} {c : Prop} [Decidable c] {a b : Option α} {Q : α → Prop} (h : ¬ c) (k : z_ok b Q) : z_ok (if c then a else b) Q := by rw [if_neg h]; exact k
theorem z_jsb {E S T : Type} {o : Option (E ⊕ S)} {w : S → T} {g : E → Option T} {P : E ⊕ S → Prop} {Q : T → Prop} (h : z_ok o P) (h1 : ∀ e, P (.inl e) → z_ok (g e) Q) (h2 : ∀ r, P (.inr r) → Q (w r)) : z_ok (jsb o w g) Q := by
  obtain ⟨r, e, p⟩ := h
  unfold jsb
  rw [e]
  cases r with
  | inl x => exact h1 x p
  | inr x => exact ⟨_, rfl, h2 x p⟩
theorem z_ltI {x y : Int32} (a b : Nat) (hx : x = nI a) (hy : y = nI b) (ha : a < 2 ^ 31) (hb : b < 2 ^ 31) : x < y ↔ a < b := by
  rw [hx, hy]; exact nI_ltI ha hb
theorem z_eqI {x y : Int32} (a b : Nat) (hx : x = nI a) (hy : y = nI b) (ha : a < 2 ^ 31) (hb : b < 2 ^ 31) : x = y ↔ a = b := by
  rw [hx, hy]; exact nI_eq ha hb
/-- a test of two numbers -/
theorem z_lt {α : Type} {x y : Int32} {A B : Option α} {Q : α → Prop} (a b : Nat) (hx : x = nI a) (hy : y = nI b) (ha : a < 2 ^ 31) (hb : b < 2 ^ 31) (h1 : a < b → z_ok A Q) (h2 : b ≤ a → z_ok B Q) : z_ok (if x < y then A else B) Q :=
  z_ite (fun h => h1 ((z_ltI a b hx hy ha hb).mp h)) (fun h => h2 (Nat.not_lt.mp (fun q => h ((z_ltI a b hx hy ha hb).mpr q))))
theorem z_ee {α : Type} {x y : Int32} {A B : Option α} {Q : α → Prop} (a b : Nat) (hx : x = nI a) (hy : y = nI b) (ha : a < 2 ^ 31) (hb : b < 2 ^ 31) (h1 : a = b → z_ok A Q) (h2 : a ≠ b → z_ok B Q) : z_ok (if x = y then A else B) Q :=
  z_ite (fun h => h1 ((z_eqI a b hx hy ha hb).mp h)) (fun h => h2 (fun q => h ((z_eqI a b hx hy ha hb).mpr q)))
/-- a loop that counts up -/
theorem z_loop {σ τ : Type} (lp : Nat → Int32 → σ → Option τ) (I : Nat → σ → Prop) (Q : τ → Prop) (K : Nat)
    (hs : ∀ n c s, c < K → I c s → (∀ s', I (c + 1) s' → z_ok (lp n (nI (c + 1)) s') Q) → z_ok (lp (n + 1) (nI c) s) Q)
    (he : ∀ n s, I K s → z_ok (lp (n + 1) (nI K) s) Q) : ∀ n c s, c ≤ K → K < n + c → I c s → z_ok (lp n (nI c) s) Q := by
  intro n
  induction n with
  | zero => intro c s h1 h2; omega
  | succ n ih =>
    intro c s h1 h2 hI
    by_cases h : c = K
    · subst h; exact he n s hI
    · exact hs n c s (by omega) hI (fun s' q => ih (c + 1) s' (by omega) (by omega) q)
/-- the same, one that goes on by itself -/
theorem z_loop0 {τ : Type} (lp : Nat → Int32 → Option τ) (I : Nat → Prop) (Q : τ → Prop) (K : Nat)
    (hs : ∀ n c, c < K → I c → (I (c + 1) → z_ok (lp n (nI (c + 1))) Q) → z_ok (lp (n + 1) (nI c)) Q)
    (he : ∀ n, I K → z_ok (lp (n + 1) (nI K)) Q) : ∀ n c, c ≤ K → K < n + c → I c → z_ok (lp n (nI c)) Q := by
  intro n
  induction n with
  | zero => intro c h1 h2; omega
  | succ n ih =>
    intro c h1 h2 hI
    by_cases h : c = K
    · subst h; exact he n hI
    · exact hs n c (by omega) hI (fun q => ih (c + 1) (by omega) (by omega) q)
/-- what stays: the rows of which P speaks -/
def z_Fr (P : Nat → Prop) (M M' : SM) : Prop := (∀ i, P i → M'.1 i = M.1 i) ∧ M'.2 = M.2
theorem z_Fr.rf {P : Nat → Prop} {M : SM} : z_Fr P M M := ⟨fun _ _ => rfl, rfl⟩
theorem z_Fr.tr {P : Nat → Prop} {M M' M'' : SM} (h : z_Fr P M M') (k : z_Fr P M' M'') : z_Fr P M M'' := ⟨fun i p => (k.1 i p).trans (h.1 i p), k.2.trans h.2⟩
theorem z_Fr.wk {P P' : Nat → Prop} {M M' : SM} (h : z_Fr P M M') (k : ∀ i, P' i → P i) : z_Fr P' M M' := ⟨fun i p => h.1 i (k i p), h.2⟩
theorem z_Fr.sI {P : Nat → Prop} {M M' : SM} {a k : Nat} {v : Int32} (h : z_Fr P M M') (ha : ¬ P a) : z_Fr P M (sI M' a k v) := ⟨fun i p => by rw [sI_ne _ _ _ (fun e => ha (by rw [← e]; exact p))]; exact h.1 i p, h.2⟩
theorem z_sI (M : SM) (a k : Nat) (v : Int32) (b j : Nat) : (sI M a k v).1 b j = if b = a then (if j = k then v else M.1 b j) else M.1 b j := rfl
theorem z_sI2 (M : SM) (a k : Nat) (v : Int32) : (sI M a k v).2 = M.2 := rfl
theorem z_sIs (M : SM) (a k : Nat) (v : Int32) : (sI M a k v).1 a k = v := by rw [z_sI, if_pos rfl, if_pos rfl]
theorem z_sIk (M : SM) (a k : Nat) (v : Int32) {j : Nat} (h : j ≠ k) : (sI M a k v).1 a j = M.1 a j := by rw [z_sI, if_pos rfl, if_neg h]
theorem z_sIa (M : SM) (a k : Nat) (v : Int32) {b : Nat} (h : b ≠ a) : (sI M a k v).1 b = M.1 b := sI_ne M k v h
theorem z_sL2 (M : SM) (a k : Nat) (v : Int64) : (sL M a k v).1 = M.1 := rfl
theorem z_sL (M : SM) (a k : Nat) (v : Int64) (b j : Nat) : (sL M a k v).2 b j = if b = a then (if j = k then v else M.2 b j) else M.2 b j := rfl
theorem z_ci {n : Nat} (h : n < 2 ^ 31) : (nI n).toNatClampNeg = n := nI_clamp h
/-- arrays by a number -/
theorem z_aI {M : SM} {a k N : Nat} (hN : jln a = N) (hk : k < N) (hb : N ≤ 10000) : aI M a (nI k) = some (M.1 a k) := by
  unfold aI
  rw [if_neg (by rw [hN]; exact nI_in hk (by omega)), nI_clamp (by omega)]
theorem z_aS {M : SM} {a k N : Nat} {v : Int32} (hN : jln a = N) (hk : k < N) (hb : N ≤ 10000) : aS M a (nI k) v = some (sI M a k v) := by
  unfold aS
  rw [if_neg (by rw [hN]; exact nI_in hk (by omega)), nI_clamp (by omega)]
theorem z_aL {M : SM} {a k N : Nat} (hN : jln a = N) (hk : k < N) (hb : N ≤ 10000) : aL M a (nI k) = some (M.2 a k) := by
  unfold aL
  rw [if_neg (by rw [hN]; exact nI_in hk (by omega)), nI_clamp (by omega)]
theorem z_aSL {M : SM} {a k N : Nat} {v : Int64} (hN : jln a = N) (hk : k < N) (hb : N ≤ 10000) : aSL M a (nI k) v = some (sL M a k v) := by
  unfold aSL
  rw [if_neg (by rw [hN]; exact nI_in hk (by omega)), nI_clamp (by omega)]
theorem z_aR {a k N : Nat} (hN : jln a = N) (hk : k < N) (hb : N ≤ 10000) : aR a (nI k) = some (jpf a k) := by
  unfold aR
  rw [if_neg (by rw [hN]; exact nI_in hk (by omega)), nI_clamp (by omega)]
theorem z_n0 {n : Nat} (h : n < 2 ^ 31) : ¬ nI n < 0 := nI_pos h
theorem z_at {M : SM} {a k N : Nat} (hN : jln a = N) (hk : k < N) (hb : N ≤ 10000) : f_Sp_at a (nI k) M = some (M.1 a k) := by
  unfold f_Sp_at
  rw [if_neg (nI_pos (by omega)), hN, if_pos (nI_lt hk (by omega)), z_aI hN hk hb]; rfl
theorem z_atO {M : SM} {a k N : Nat} (hN : jln a = N) (hk : N ≤ k) (hb : k < 2 ^ 31) : f_Sp_at a (nI k) M = some 0 := by
  unfold f_Sp_at
  rw [if_neg (nI_pos (by omega)), hN, if_neg (nI_nlt hk (by omega))]
theorem z_atN {M : SM} {a : Nat} {x : Int32} (h : x < 0) : f_Sp_at a x M = some 0 := by
  unfold f_Sp_at
  rw [if_pos h]
theorem z_put {M : SM} {a k N : Nat} {v : Int32} (hN : jln a = N) (hk : k < N) (hb : N ≤ 10000) : f_Sp_put a (nI k) v M = some (sI M a k v) := by
  unfold f_Sp_put
  rw [if_neg (nI_pos (by omega)), hN, if_pos (nI_lt hk (by omega)), z_aS hN hk hb]; rfl
theorem z_putO {M : SM} {a k N : Nat} {v : Int32} (hN : jln a = N) (hk : N ≤ k) (hb : k < 2 ^ 31) : f_Sp_put a (nI k) v M = some M := by
  unfold f_Sp_put
  rw [if_neg (nI_pos (by omega)), hN, if_neg (nI_nlt hk (by omega))]
theorem z_cof {M : SM} {g i k N L r : Nat} (hN : jln g = N) (hi : i < N) (hr : jpf g i = r) (hL : jln r = L) (hk : k < L) (hb : N ≤ 10000) (hc : L ≤ 10000) : f_Sp_cellOf g (nI i) (nI k) M = some (M.1 r k) := by
  unfold f_Sp_cellOf
  rw [if_neg (nI_pos (by omega)), hN, if_pos (nI_lt hi (by omega)), z_aR hN hi hb, hr]
  show (if nI k < 0 then _ else _) = _
  rw [if_neg (nI_pos (by omega)), hL, if_pos (nI_lt hk (by omega)), z_aI hL hk hc]; rfl
theorem z_cofO {M : SM} {g i k N L r : Nat} (hN : jln g = N) (hi : i < N) (hr : jpf g i = r) (hL : jln r = L) (hk : L ≤ k) (hb : N ≤ 10000) (hc : k < 2 ^ 31) : f_Sp_cellOf g (nI i) (nI k) M = some 0 := by
  unfold f_Sp_cellOf
  rw [if_neg (nI_pos (by omega)), hN, if_pos (nI_lt hi (by omega)), z_aR hN hi hb, hr]
  show (if nI k < 0 then _ else _) = _
  rw [if_neg (nI_pos (by omega)), hL, if_neg (nI_nlt hk (by omega))]
theorem z_cofN {M : SM} {g : Nat} {x y : Int32} (h : x < 0) : f_Sp_cellOf g x y M = some 0 := by
  unfold f_Sp_cellOf
  rw [if_pos h]
theorem z_pc {M : SM} {g i k N L r : Nat} {v : Int32} (hN : jln g = N) (hi : i < N) (hr : jpf g i = r) (hL : jln r = L) (hk : k < L) (hb : N ≤ 10000) (hc : L ≤ 10000) : f_Sp_putCell g (nI i) (nI k) v M = some (sI M r k v) := by
  unfold f_Sp_putCell
  rw [if_neg (nI_pos (by omega)), hN, if_pos (nI_lt hi (by omega)), z_aR hN hi hb, hr]
  show (if nI k < 0 then _ else _) = _
  rw [if_neg (nI_pos (by omega)), hL, if_pos (nI_lt hk (by omega)), z_aS hL hk hc]; rfl
theorem z_bchk {v : Int32} (h : v = 0 ∨ v = 1) : bchk v = some v := by unfold bchk; rw [if_pos h]
theorem z_jmin {a b : Nat} (ha : a < 2 ^ 31) (hb : b < 2 ^ 31) : jmin (nI a) (nI b) = nI (min a b) := by
  unfold jmin
  by_cases h : b < a
  · rw [if_pos (nI_lt h ha), Nat.min_eq_right (by omega)]
  · rw [if_neg (nI_nlt (by omega) hb), Nat.min_eq_left (by omega)]
theorem z_jmax {a b : Nat} (ha : a < 2 ^ 31) (hb : b < 2 ^ 31) : jmax (nI a) (nI b) = nI (max a b) := by
  unfold jmax
  by_cases h : a < b
  · rw [if_pos (nI_lt h hb), Nat.max_eq_right (by omega)]
  · rw [if_neg (nI_nlt (by omega) ha), Nat.max_eq_left (by omega)]
theorem z_add (a b : Nat) : nI a + nI b = nI (a + b) := nI_add a b
theorem z_mul (a b : Nat) : nI a * nI b = nI (a * b) := pk_mul a b
theorem z_sub {a b : Nat} (h : b ≤ a) : nI a - nI b = nI (a - b) := pk_sub h
theorem z_neg1 {n : Nat} (h : n < 2 ^ 31) : ¬ nI n = -1 := by
  intro e
  have h1 := nI_pos h
  rw [e] at h1
  exact h1 (by decide)
theorem zl_0 : (0 : Int32) = nI 0 := rfl
theorem zl_1 : (1 : Int32) = nI 1 := rfl
theorem zl_2 : (2 : Int32) = nI 2 := rfl
theorem zl_3 : (3 : Int32) = nI 3 := rfl
theorem zl_4 : (4 : Int32) = nI 4 := rfl
theorem zl_5 : (5 : Int32) = nI 5 := rfl
theorem zl_6 : (6 : Int32) = nI 6 := rfl
theorem zl_8 : (8 : Int32) = nI 8 := rfl
theorem zl_9 : (9 : Int32) = nI 9 := rfl
theorem zl_10 : (10 : Int32) = nI 10 := rfl
theorem zl_12 : (12 : Int32) = nI 12 := rfl
theorem zl_20 : (20 : Int32) = nI 20 := rfl
theorem zl_24 : (24 : Int32) = nI 24 := rfl
theorem zl_26 : (26 : Int32) = nI 26 := rfl
theorem zl_27 : (27 : Int32) = nI 27 := rfl
theorem zl_32 : (32 : Int32) = nI 32 := rfl
theorem zl_48 : (48 : Int32) = nI 48 := rfl
theorem zl_60 : (60 : Int32) = nI 60 := rfl
theorem zl_61 : (61 : Int32) = nI 61 := rfl
theorem zl_97 : (97 : Int32) = nI 97 := rfl
theorem zl_100 : (100 : Int32) = nI 100 := rfl
theorem zl_99 : (99 : Int32) = nI 99 := rfl
theorem zl_122 : (122 : Int32) = nI 122 := rfl
theorem zl_149 : (149 : Int32) = nI 149 := rfl
theorem zl_251 : (251 : Int32) = nI 251 := rfl
theorem zl_488 : (488 : Int32) = nI 488 := rfl
theorem zl_1000 : (1000 : Int32) = nI 1000 := rfl
theorem zl_1600 : (1600 : Int32) = nI 1600 := rfl
theorem z_ls {a : Nat} (h : 1 ≤ a) : nI a - 1 = nI (a - 1) := z_sub h
theorem z_jm0 {a b : Nat} (ha : a < 2 ^ 30) (hb : b < 2 ^ 30) : jmax 0 (nI a - nI b) = nI (a - b) := by
  have h := pk_sub_toInt ha hb
  have e : (0 < nI a - nI b ↔ b < a) := by
    rw [Int32.lt_iff_toInt_lt, h]
    show (0 : Int) < _ ↔ _
    omega
  unfold jmax
  by_cases q : b < a
  · rw [if_pos (e.mpr q), z_sub (by omega)]
  · rw [if_neg (fun r => q (e.mp r)), show a - b = 0 by omega]; rfl
theorem z_jf : jfuel = 2000 := rfl
def z_it {α : Type} (f : Nat → α → α) : Nat → α → α
  | 0, s => s
  | k + 1, s => f k (z_it f k s)
def z_u (f : Nat → Nat) (k v : Nat) : Nat → Nat := fun j => if j = k then v else f j
theorem z_us (f : Nat → Nat) (k v : Nat) : z_u f k v k = v := if_pos rfl
theorem z_un (f : Nat → Nat) (k v : Nat) {j : Nat} (h : j ≠ k) : z_u f k v j = f j := if_neg h
/-! pointers, lengths, arrays -/
theorem jp_0_0 : jpf 0 0 = 1 := by decide +kernel
theorem jp_0_1 : jpf 0 1 = 3 := by decide +kernel
theorem jp_0_2 : jpf 0 2 = 5 := by decide +kernel
theorem jp_0_3 : jpf 0 3 = 107 := by decide +kernel
theorem jp_0_4 : jpf 0 4 = 322 := by decide +kernel
theorem jp_0_5 : jpf 0 5 = 108 := by decide +kernel
theorem jp_0_6 : jpf 0 6 = 132 := by decide +kernel
theorem jp_0_7 : jpf 0 7 = 319 := by decide +kernel
theorem jp_0_10 : jpf 0 10 = 364 := by decide +kernel
theorem jp_0_13 : jpf 0 13 = 365 := by decide +kernel
theorem jp_1_0 : jpf 1 0 = 2 := by decide +kernel
theorem jp_3_0 : jpf 3 0 = 1 := by decide +kernel
theorem jp_3_2 : jpf 3 2 = 4 := by decide +kernel
theorem jp_5_0 : jpf 5 0 = 3 := by decide +kernel
theorem jp_5_1 : jpf 5 1 = 6 := by decide +kernel
theorem jp_107_0 : jpf 107 0 = 3 := by decide +kernel
theorem jp_107_1 : jpf 107 1 = 5 := by decide +kernel
theorem jp_108_0 : jpf 108 0 = 109 := by decide +kernel
theorem jp_108_1 : jpf 108 1 = 110 := by decide +kernel
theorem jp_108_2 : jpf 108 2 = 111 := by decide +kernel
theorem jp_132_0 : jpf 132 0 = 133 := by decide +kernel
theorem jp_132_1 : jpf 132 1 = 195 := by decide +kernel
theorem jp_132_2 : jpf 132 2 = 257 := by decide +kernel
theorem jp_319_0 : jpf 319 0 = 320 := by decide +kernel
theorem jp_319_1 : jpf 319 1 = 321 := by decide +kernel
theorem jp_322_0 : jpf 322 0 = 3 := by decide +kernel
theorem jp_322_1 : jpf 322 1 = 132 := by decide +kernel
theorem jp_322_2 : jpf 322 2 = 323 := by decide +kernel
theorem jm_0 : jpf 366 0 = 367 := by decide +kernel
theorem jm_28 : jpf 366 28 = 385 := by decide +kernel
theorem jm_29 : jpf 366 29 = 386 := by decide +kernel
theorem jm_32 : jpf 366 32 = 387 := by decide +kernel
theorem jm_33 : jpf 366 33 = 388 := by decide +kernel
theorem jm_34 : jpf 366 34 = 389 := by decide +kernel
theorem jm_35 : jpf 366 35 = 390 := by decide +kernel
theorem jm_36 : jpf 366 36 = 391 := by decide +kernel
theorem jm_37 : jpf 366 37 = 392 := by decide +kernel
theorem jm_38 : jpf 366 38 = 393 := by decide +kernel
theorem jm_39 : jpf 366 39 = 394 := by decide +kernel
theorem jm_40 : jpf 366 40 = 395 := by decide +kernel
theorem jm_41 : jpf 366 41 = 396 := by decide +kernel
theorem jm_43 : jpf 366 43 = 397 := by decide +kernel
theorem jm_45 : jpf 366 45 = 398 := by decide +kernel
theorem jm_52 : jpf 366 52 = 399 := by decide +kernel
theorem jm_53 : jpf 366 53 = 400 := by decide +kernel
theorem jm_59 : jpf 366 59 = 401 := by decide +kernel
theorem jm_60 : jpf 366 60 = 402 := by decide +kernel
theorem jm_61 : jpf 366 61 = 403 := by decide +kernel
theorem jm_62 : jpf 366 62 = 404 := by decide +kernel
theorem jm_66 : jpf 366 66 = 405 := by decide +kernel
theorem jm_88 : jpf 366 88 = 426 := by decide +kernel
theorem jm_90 : jpf 366 90 = 427 := by decide +kernel
theorem jm_94 : jpf 366 94 = 428 := by decide +kernel
theorem jm_98 : jpf 366 98 = 429 := by decide +kernel
theorem jm_10 : jpf 366 10 = 368 := by decide +kernel
theorem jm_11 : jpf 366 11 = 369 := by decide +kernel
theorem jm_12 : jpf 366 12 = 370 := by decide +kernel
theorem jm_13 : jpf 366 13 = 371 := by decide +kernel
theorem jm_14 : jpf 366 14 = 372 := by decide +kernel
theorem jm_15 : jpf 366 15 = 373 := by decide +kernel
theorem jm_16 : jpf 366 16 = 374 := by decide +kernel
theorem jm_17 : jpf 366 17 = 375 := by decide +kernel
theorem jm_18 : jpf 366 18 = 376 := by decide +kernel
theorem jm_19 : jpf 366 19 = 377 := by decide +kernel
theorem jm_20 : jpf 366 20 = 378 := by decide +kernel
theorem jm_21 : jpf 366 21 = 379 := by decide +kernel
theorem jm_22 : jpf 366 22 = 380 := by decide +kernel
theorem jm_23 : jpf 366 23 = 381 := by decide +kernel
theorem jm_24 : jpf 366 24 = 382 := by decide +kernel
theorem jm_25 : jpf 366 25 = 383 := by decide +kernel
theorem jm_26 : jpf 366 26 = 384 := by decide +kernel
theorem jm_68 : jpf 366 68 = 406 := by decide +kernel
theorem jm_69 : jpf 366 69 = 407 := by decide +kernel
theorem jm_70 : jpf 366 70 = 408 := by decide +kernel
theorem jm_71 : jpf 366 71 = 409 := by decide +kernel
theorem jm_72 : jpf 366 72 = 410 := by decide +kernel
theorem jm_73 : jpf 366 73 = 411 := by decide +kernel
theorem jm_74 : jpf 366 74 = 412 := by decide +kernel
theorem jm_75 : jpf 366 75 = 413 := by decide +kernel
theorem jm_76 : jpf 366 76 = 414 := by decide +kernel
theorem jm_77 : jpf 366 77 = 415 := by decide +kernel
theorem jm_78 : jpf 366 78 = 416 := by decide +kernel
theorem jm_79 : jpf 366 79 = 417 := by decide +kernel
theorem jm_80 : jpf 366 80 = 418 := by decide +kernel
theorem jm_81 : jpf 366 81 = 419 := by decide +kernel
theorem jm_82 : jpf 366 82 = 420 := by decide +kernel
theorem jm_83 : jpf 366 83 = 421 := by decide +kernel
theorem jm_84 : jpf 366 84 = 422 := by decide +kernel
theorem jm_85 : jpf 366 85 = 423 := by decide +kernel
theorem jm_86 : jpf 366 86 = 424 := by decide +kernel
theorem jm_87 : jpf 366 87 = 425 := by decide +kernel
theorem jl_2 : jln 2 = 1600 := by decide +kernel
theorem jl_4 : jln 4 = 12 := by decide +kernel
theorem jl_6 : jln 6 = 60 := by decide +kernel
theorem jl_109 : jln 109 = 20 := by decide +kernel
theorem jl_110 : jln 110 = 20 := by decide +kernel
theorem jl_320 : jln 320 = 12 := by decide +kernel
theorem jl_321 : jln 321 = 4 := by decide +kernel
theorem jl_364 : jln 364 = 12 := by decide +kernel
theorem jl_365 : jln 365 = 489 := by decide +kernel
theorem jl_367 : jln 367 = 1600 := by decide +kernel
theorem jl_385 : jln 385 = 8 := by decide +kernel
theorem jl_386 : jln 386 = 48 := by decide +kernel
theorem jl_387 : jln 387 = 24 := by decide +kernel
theorem jl_388 : jln 388 = 24 := by decide +kernel
theorem jl_389 : jln 389 = 24 := by decide +kernel
theorem jl_390 : jln 390 = 16 := by decide +kernel
theorem jl_391 : jln 391 = 976 := by decide +kernel
theorem jl_392 : jln 392 = 16 := by decide +kernel
theorem jl_393 : jln 393 = 16 := by decide +kernel
theorem jl_394 : jln 394 = 16 := by decide +kernel
theorem jl_395 : jln 395 = 2 := by decide +kernel
theorem jl_396 : jln 396 = 2 := by decide +kernel
theorem jl_397 : jln 397 = 60 := by decide +kernel
theorem jl_398 : jln 398 = 5 := by decide +kernel
theorem jl_399 : jln 399 = 12 := by decide +kernel
theorem jl_400 : jln 400 = 4 := by decide +kernel
theorem jl_401 : jln 401 = 732 := by decide +kernel
theorem jl_402 : jln 402 = 244 := by decide +kernel
theorem jl_403 : jln 403 = 366 := by decide +kernel
theorem jl_404 : jln 404 = 9760 := by decide +kernel
theorem jl_405 : jln 405 = 12 := by decide +kernel
theorem jl_426 : jln 426 = 1700 := by decide +kernel
theorem jl_427 : jln 427 = 1700 := by decide +kernel
theorem jl_428 : jln 428 = 1700 := by decide +kernel
theorem jl_429 : jln 429 = 489 := by decide +kernel
theorem jl_111 : jln 111 = 20 := by decide +kernel
theorem jl_133 : jln 133 = 61 := by decide +kernel
theorem jl_195 : jln 195 = 61 := by decide +kernel
theorem jl_257 : jln 257 = 61 := by decide +kernel
theorem jl_323 : jln 323 = 40 := by decide +kernel
theorem jl_368 : jln 368 = 5 := by decide +kernel
theorem jl_369 : jln 369 = 3 := by decide +kernel
theorem jl_370 : jln 370 = 2 := by decide +kernel
theorem jl_371 : jln 371 = 5 := by decide +kernel
theorem jl_372 : jln 372 = 4 := by decide +kernel
theorem jl_373 : jln 373 = 4 := by decide +kernel
theorem jl_374 : jln 374 = 5 := by decide +kernel
theorem jl_375 : jln 375 = 3 := by decide +kernel
theorem jl_376 : jln 376 = 6 := by decide +kernel
theorem jl_377 : jln 377 = 4 := by decide +kernel
theorem jl_378 : jln 378 = 5 := by decide +kernel
theorem jl_379 : jln 379 = 4 := by decide +kernel
theorem jl_380 : jln 380 = 5 := by decide +kernel
theorem jl_381 : jln 381 = 6 := by decide +kernel
theorem jl_382 : jln 382 = 6 := by decide +kernel
theorem jl_383 : jln 383 = 4 := by decide +kernel
theorem jl_384 : jln 384 = 5 := by decide +kernel
theorem jl_406 : jln 406 = 5 := by decide +kernel
theorem jl_407 : jln 407 = 4 := by decide +kernel
theorem jl_408 : jln 408 = 5 := by decide +kernel
theorem jl_409 : jln 409 = 5 := by decide +kernel
theorem jl_410 : jln 410 = 4 := by decide +kernel
theorem jl_411 : jln 411 = 5 := by decide +kernel
theorem jl_412 : jln 412 = 3 := by decide +kernel
theorem jl_413 : jln 413 = 3 := by decide +kernel
theorem jl_414 : jln 414 = 2 := by decide +kernel
theorem jl_415 : jln 415 = 3 := by decide +kernel
theorem jl_416 : jln 416 = 3 := by decide +kernel
theorem jl_417 : jln 417 = 3 := by decide +kernel
theorem jl_418 : jln 418 = 3 := by decide +kernel
theorem jl_419 : jln 419 = 4 := by decide +kernel
theorem jl_420 : jln 420 = 3 := by decide +kernel
theorem jl_421 : jln 421 = 5 := by decide +kernel
theorem jl_422 : jln 422 = 5 := by decide +kernel
theorem jl_423 : jln 423 = 6 := by decide +kernel
theorem jl_424 : jln 424 = 4 := by decide +kernel
theorem jl_425 : jln 425 = 4 := by decide +kernel
theorem za_2 (M : SM) {k : Nat} (h : k < 1600) : f_Sp_at 2 (nI k) M = some (M.1 2 k) := z_at jl_2 h (by decide)
theorem zp_2 (M : SM) {k : Nat} {v : Int32} (h : k < 1600) : f_Sp_put 2 (nI k) v M = some (sI M 2 k v) := z_put jl_2 h (by decide)
theorem zi_2 (M : SM) {k : Nat} (h : k < 1600) : aI M 2 (nI k) = some (M.1 2 k) := z_aI jl_2 h (by decide)
theorem za_4 (M : SM) {k : Nat} (h : k < 12) : f_Sp_at 4 (nI k) M = some (M.1 4 k) := z_at jl_4 h (by decide)
theorem zp_4 (M : SM) {k : Nat} {v : Int32} (h : k < 12) : f_Sp_put 4 (nI k) v M = some (sI M 4 k v) := z_put jl_4 h (by decide)
theorem zi_4 (M : SM) {k : Nat} (h : k < 12) : aI M 4 (nI k) = some (M.1 4 k) := z_aI jl_4 h (by decide)
theorem za_6 (M : SM) {k : Nat} (h : k < 60) : f_Sp_at 6 (nI k) M = some (M.1 6 k) := z_at jl_6 h (by decide)
theorem zp_6 (M : SM) {k : Nat} {v : Int32} (h : k < 60) : f_Sp_put 6 (nI k) v M = some (sI M 6 k v) := z_put jl_6 h (by decide)
theorem zi_6 (M : SM) {k : Nat} (h : k < 60) : aI M 6 (nI k) = some (M.1 6 k) := z_aI jl_6 h (by decide)
theorem za_109 (M : SM) {k : Nat} (h : k < 20) : f_Sp_at 109 (nI k) M = some (M.1 109 k) := z_at jl_109 h (by decide)
theorem zp_109 (M : SM) {k : Nat} {v : Int32} (h : k < 20) : f_Sp_put 109 (nI k) v M = some (sI M 109 k v) := z_put jl_109 h (by decide)
theorem zi_109 (M : SM) {k : Nat} (h : k < 20) : aI M 109 (nI k) = some (M.1 109 k) := z_aI jl_109 h (by decide)
theorem za_110 (M : SM) {k : Nat} (h : k < 20) : f_Sp_at 110 (nI k) M = some (M.1 110 k) := z_at jl_110 h (by decide)
theorem zp_110 (M : SM) {k : Nat} {v : Int32} (h : k < 20) : f_Sp_put 110 (nI k) v M = some (sI M 110 k v) := z_put jl_110 h (by decide)
theorem zi_110 (M : SM) {k : Nat} (h : k < 20) : aI M 110 (nI k) = some (M.1 110 k) := z_aI jl_110 h (by decide)
theorem za_320 (M : SM) {k : Nat} (h : k < 12) : f_Sp_at 320 (nI k) M = some (M.1 320 k) := z_at jl_320 h (by decide)
theorem zp_320 (M : SM) {k : Nat} {v : Int32} (h : k < 12) : f_Sp_put 320 (nI k) v M = some (sI M 320 k v) := z_put jl_320 h (by decide)
theorem zi_320 (M : SM) {k : Nat} (h : k < 12) : aI M 320 (nI k) = some (M.1 320 k) := z_aI jl_320 h (by decide)
theorem za_321 (M : SM) {k : Nat} (h : k < 4) : f_Sp_at 321 (nI k) M = some (M.1 321 k) := z_at jl_321 h (by decide)
theorem zp_321 (M : SM) {k : Nat} {v : Int32} (h : k < 4) : f_Sp_put 321 (nI k) v M = some (sI M 321 k v) := z_put jl_321 h (by decide)
theorem zi_321 (M : SM) {k : Nat} (h : k < 4) : aI M 321 (nI k) = some (M.1 321 k) := z_aI jl_321 h (by decide)
theorem za_364 (M : SM) {k : Nat} (h : k < 12) : f_Sp_at 364 (nI k) M = some (M.1 364 k) := z_at jl_364 h (by decide)
theorem zp_364 (M : SM) {k : Nat} {v : Int32} (h : k < 12) : f_Sp_put 364 (nI k) v M = some (sI M 364 k v) := z_put jl_364 h (by decide)
theorem zi_364 (M : SM) {k : Nat} (h : k < 12) : aI M 364 (nI k) = some (M.1 364 k) := z_aI jl_364 h (by decide)
theorem za_365 (M : SM) {k : Nat} (h : k < 489) : f_Sp_at 365 (nI k) M = some (M.1 365 k) := z_at jl_365 h (by decide)
theorem zp_365 (M : SM) {k : Nat} {v : Int32} (h : k < 489) : f_Sp_put 365 (nI k) v M = some (sI M 365 k v) := z_put jl_365 h (by decide)
theorem zi_365 (M : SM) {k : Nat} (h : k < 489) : aI M 365 (nI k) = some (M.1 365 k) := z_aI jl_365 h (by decide)
theorem zi_367 (M : SM) {k : Nat} (h : k < 1600) : aI M 367 (nI k) = some (M.1 367 k) := z_aI jl_367 h (by decide)
theorem zs_367 (M : SM) {k : Nat} {v : Int32} (h : k < 1600) : aS M 367 (nI k) v = some (sI M 367 k v) := z_aS jl_367 h (by decide)
theorem zi_385 (M : SM) {k : Nat} (h : k < 8) : aI M 385 (nI k) = some (M.1 385 k) := z_aI jl_385 h (by decide)
theorem zs_385 (M : SM) {k : Nat} {v : Int32} (h : k < 8) : aS M 385 (nI k) v = some (sI M 385 k v) := z_aS jl_385 h (by decide)
theorem zi_386 (M : SM) {k : Nat} (h : k < 48) : aL M 386 (nI k) = some (M.2 386 k) := z_aL jl_386 h (by decide)
theorem zs_386 (M : SM) {k : Nat} {v : Int64} (h : k < 48) : aSL M 386 (nI k) v = some (sL M 386 k v) := z_aSL jl_386 h (by decide)
theorem zi_387 (M : SM) {k : Nat} (h : k < 24) : aI M 387 (nI k) = some (M.1 387 k) := z_aI jl_387 h (by decide)
theorem zs_387 (M : SM) {k : Nat} {v : Int32} (h : k < 24) : aS M 387 (nI k) v = some (sI M 387 k v) := z_aS jl_387 h (by decide)
theorem zi_388 (M : SM) {k : Nat} (h : k < 24) : aI M 388 (nI k) = some (M.1 388 k) := z_aI jl_388 h (by decide)
theorem zs_388 (M : SM) {k : Nat} {v : Int32} (h : k < 24) : aS M 388 (nI k) v = some (sI M 388 k v) := z_aS jl_388 h (by decide)
theorem zi_389 (M : SM) {k : Nat} (h : k < 24) : aI M 389 (nI k) = some (M.1 389 k) := z_aI jl_389 h (by decide)
theorem zs_389 (M : SM) {k : Nat} {v : Int32} (h : k < 24) : aS M 389 (nI k) v = some (sI M 389 k v) := z_aS jl_389 h (by decide)
theorem zi_390 (M : SM) {k : Nat} (h : k < 16) : aI M 390 (nI k) = some (M.1 390 k) := z_aI jl_390 h (by decide)
theorem zs_390 (M : SM) {k : Nat} {v : Int32} (h : k < 16) : aS M 390 (nI k) v = some (sI M 390 k v) := z_aS jl_390 h (by decide)
theorem zi_391 (M : SM) {k : Nat} (h : k < 976) : aI M 391 (nI k) = some (M.1 391 k) := z_aI jl_391 h (by decide)
theorem zs_391 (M : SM) {k : Nat} {v : Int32} (h : k < 976) : aS M 391 (nI k) v = some (sI M 391 k v) := z_aS jl_391 h (by decide)
theorem zi_392 (M : SM) {k : Nat} (h : k < 16) : aI M 392 (nI k) = some (M.1 392 k) := z_aI jl_392 h (by decide)
theorem zs_392 (M : SM) {k : Nat} {v : Int32} (h : k < 16) : aS M 392 (nI k) v = some (sI M 392 k v) := z_aS jl_392 h (by decide)
theorem zi_393 (M : SM) {k : Nat} (h : k < 16) : aI M 393 (nI k) = some (M.1 393 k) := z_aI jl_393 h (by decide)
theorem zs_393 (M : SM) {k : Nat} {v : Int32} (h : k < 16) : aS M 393 (nI k) v = some (sI M 393 k v) := z_aS jl_393 h (by decide)
theorem zi_394 (M : SM) {k : Nat} (h : k < 16) : aI M 394 (nI k) = some (M.1 394 k) := z_aI jl_394 h (by decide)
theorem zs_394 (M : SM) {k : Nat} {v : Int32} (h : k < 16) : aS M 394 (nI k) v = some (sI M 394 k v) := z_aS jl_394 h (by decide)
theorem zi_395 (M : SM) {k : Nat} (h : k < 2) : aI M 395 (nI k) = some (M.1 395 k) := z_aI jl_395 h (by decide)
theorem zs_395 (M : SM) {k : Nat} {v : Int32} (h : k < 2) : aS M 395 (nI k) v = some (sI M 395 k v) := z_aS jl_395 h (by decide)
theorem zi_396 (M : SM) {k : Nat} (h : k < 2) : aI M 396 (nI k) = some (M.1 396 k) := z_aI jl_396 h (by decide)
theorem zs_396 (M : SM) {k : Nat} {v : Int32} (h : k < 2) : aS M 396 (nI k) v = some (sI M 396 k v) := z_aS jl_396 h (by decide)
theorem zi_397 (M : SM) {k : Nat} (h : k < 60) : aI M 397 (nI k) = some (M.1 397 k) := z_aI jl_397 h (by decide)
theorem zs_397 (M : SM) {k : Nat} {v : Int32} (h : k < 60) : aS M 397 (nI k) v = some (sI M 397 k v) := z_aS jl_397 h (by decide)
theorem zi_398 (M : SM) {k : Nat} (h : k < 5) : aI M 398 (nI k) = some (M.1 398 k) := z_aI jl_398 h (by decide)
theorem zs_398 (M : SM) {k : Nat} {v : Int32} (h : k < 5) : aS M 398 (nI k) v = some (sI M 398 k v) := z_aS jl_398 h (by decide)
theorem zi_399 (M : SM) {k : Nat} (h : k < 12) : aI M 399 (nI k) = some (M.1 399 k) := z_aI jl_399 h (by decide)
theorem zs_399 (M : SM) {k : Nat} {v : Int32} (h : k < 12) : aS M 399 (nI k) v = some (sI M 399 k v) := z_aS jl_399 h (by decide)
theorem zi_400 (M : SM) {k : Nat} (h : k < 4) : aI M 400 (nI k) = some (M.1 400 k) := z_aI jl_400 h (by decide)
theorem zs_400 (M : SM) {k : Nat} {v : Int32} (h : k < 4) : aS M 400 (nI k) v = some (sI M 400 k v) := z_aS jl_400 h (by decide)
theorem zi_401 (M : SM) {k : Nat} (h : k < 732) : aI M 401 (nI k) = some (M.1 401 k) := z_aI jl_401 h (by decide)
theorem zs_401 (M : SM) {k : Nat} {v : Int32} (h : k < 732) : aS M 401 (nI k) v = some (sI M 401 k v) := z_aS jl_401 h (by decide)
theorem zi_402 (M : SM) {k : Nat} (h : k < 244) : aI M 402 (nI k) = some (M.1 402 k) := z_aI jl_402 h (by decide)
theorem zs_402 (M : SM) {k : Nat} {v : Int32} (h : k < 244) : aS M 402 (nI k) v = some (sI M 402 k v) := z_aS jl_402 h (by decide)
theorem zi_403 (M : SM) {k : Nat} (h : k < 366) : aI M 403 (nI k) = some (M.1 403 k) := z_aI jl_403 h (by decide)
theorem zs_403 (M : SM) {k : Nat} {v : Int32} (h : k < 366) : aS M 403 (nI k) v = some (sI M 403 k v) := z_aS jl_403 h (by decide)
theorem zi_404 (M : SM) {k : Nat} (h : k < 9760) : aI M 404 (nI k) = some (M.1 404 k) := z_aI jl_404 h (by decide)
theorem zs_404 (M : SM) {k : Nat} {v : Int32} (h : k < 9760) : aS M 404 (nI k) v = some (sI M 404 k v) := z_aS jl_404 h (by decide)
theorem zi_405 (M : SM) {k : Nat} (h : k < 12) : aI M 405 (nI k) = some (M.1 405 k) := z_aI jl_405 h (by decide)
theorem zs_405 (M : SM) {k : Nat} {v : Int32} (h : k < 12) : aS M 405 (nI k) v = some (sI M 405 k v) := z_aS jl_405 h (by decide)
theorem zi_426 (M : SM) {k : Nat} (h : k < 1700) : aI M 426 (nI k) = some (M.1 426 k) := z_aI jl_426 h (by decide)
theorem zs_426 (M : SM) {k : Nat} {v : Int32} (h : k < 1700) : aS M 426 (nI k) v = some (sI M 426 k v) := z_aS jl_426 h (by decide)
theorem zi_427 (M : SM) {k : Nat} (h : k < 1700) : aI M 427 (nI k) = some (M.1 427 k) := z_aI jl_427 h (by decide)
theorem zs_427 (M : SM) {k : Nat} {v : Int32} (h : k < 1700) : aS M 427 (nI k) v = some (sI M 427 k v) := z_aS jl_427 h (by decide)
theorem zi_428 (M : SM) {k : Nat} (h : k < 1700) : aL M 428 (nI k) = some (M.2 428 k) := z_aL jl_428 h (by decide)
theorem zs_428 (M : SM) {k : Nat} {v : Int64} (h : k < 1700) : aSL M 428 (nI k) v = some (sL M 428 k v) := z_aSL jl_428 h (by decide)
theorem zi_429 (M : SM) {k : Nat} (h : k < 489) : aI M 429 (nI k) = some (M.1 429 k) := z_aI jl_429 h (by decide)
theorem zs_429 (M : SM) {k : Nat} {v : Int32} (h : k < 489) : aS M 429 (nI k) v = some (sI M 429 k v) := z_aS jl_429 h (by decide)
theorem jo_5 {o : Nat} (h : o = 7 ∨ o = 57) : jpf o 5 = o + 1 := by rcases h with rfl | rfl <;> decide +kernel
theorem jo_6 {o : Nat} (h : o = 7 ∨ o = 57) : jpf o 6 = o + 2 := by rcases h with rfl | rfl <;> decide +kernel
theorem jo_7 {o : Nat} (h : o = 7 ∨ o = 57) : jpf o 7 = o + 3 := by rcases h with rfl | rfl <;> decide +kernel
theorem jo_8 {o : Nat} (h : o = 7 ∨ o = 57) : jpf o 8 = o + 4 := by rcases h with rfl | rfl <;> decide +kernel
theorem jo_9 {o : Nat} (h : o = 7 ∨ o = 57) : jpf o 9 = o + 5 := by rcases h with rfl | rfl <;> decide +kernel
theorem jo_10 {o : Nat} (h : o = 7 ∨ o = 57) : jpf o 10 = o + 30 := by rcases h with rfl | rfl <;> decide +kernel
theorem jo_11 {o : Nat} (h : o = 7 ∨ o = 57) : jpf o 11 = o + 33 := by rcases h with rfl | rfl <;> decide +kernel
theorem jo_12 {o : Nat} (h : o = 7 ∨ o = 57) : jpf o 12 = o + 36 := by rcases h with rfl | rfl <;> decide +kernel
theorem jo_13 {o : Nat} (h : o = 7 ∨ o = 57) : jpf o 13 = o + 39 := by rcases h with rfl | rfl <;> decide +kernel
theorem jo_30_0 {o : Nat} (h : o = 7 ∨ o = 57) : jpf (o + 30) 0 = o + 31 := by rcases h with rfl | rfl <;> decide +kernel
theorem jo_30_1 {o : Nat} (h : o = 7 ∨ o = 57) : jpf (o + 30) 1 = o + 32 := by rcases h with rfl | rfl <;> decide +kernel
theorem jo_33_0 {o : Nat} (h : o = 7 ∨ o = 57) : jpf (o + 33) 0 = o + 34 := by rcases h with rfl | rfl <;> decide +kernel
theorem jo_33_1 {o : Nat} (h : o = 7 ∨ o = 57) : jpf (o + 33) 1 = o + 35 := by rcases h with rfl | rfl <;> decide +kernel
theorem jo_36_0 {o : Nat} (h : o = 7 ∨ o = 57) : jpf (o + 36) 0 = o + 37 := by rcases h with rfl | rfl <;> decide +kernel
theorem jo_36_1 {o : Nat} (h : o = 7 ∨ o = 57) : jpf (o + 36) 1 = o + 38 := by rcases h with rfl | rfl <;> decide +kernel
theorem jo_39_0 {o : Nat} (h : o = 7 ∨ o = 57) : jpf (o + 39) 0 = o + 40 := by rcases h with rfl | rfl <;> decide +kernel
theorem jo_39_1 {o : Nat} (h : o = 7 ∨ o = 57) : jpf (o + 39) 1 = o + 49 := by rcases h with rfl | rfl <;> decide +kernel
theorem jlo_1 {o : Nat} (h : o = 7 ∨ o = 57) : jln (o + 1) = 12 := by rcases h with rfl | rfl <;> decide +kernel
theorem jlo_2 {o : Nat} (h : o = 7 ∨ o = 57) : jln (o + 2) = 12 := by rcases h with rfl | rfl <;> decide +kernel
theorem jlo_3 {o : Nat} (h : o = 7 ∨ o = 57) : jln (o + 3) = 12 := by rcases h with rfl | rfl <;> decide +kernel
theorem jlo_4 {o : Nat} (h : o = 7 ∨ o = 57) : jln (o + 4) = 8 := by rcases h with rfl | rfl <;> decide +kernel
theorem jlo_31 {o : Nat} (h : o = 7 ∨ o = 57) : jln (o + 31) = 4 := by rcases h with rfl | rfl <;> decide +kernel
theorem jlo_32 {o : Nat} (h : o = 7 ∨ o = 57) : jln (o + 32) = 4 := by rcases h with rfl | rfl <;> decide +kernel
theorem jlo_34 {o : Nat} (h : o = 7 ∨ o = 57) : jln (o + 34) = 4 := by rcases h with rfl | rfl <;> decide +kernel
theorem jlo_35 {o : Nat} (h : o = 7 ∨ o = 57) : jln (o + 35) = 4 := by rcases h with rfl | rfl <;> decide +kernel
theorem jlo_37 {o : Nat} (h : o = 7 ∨ o = 57) : jln (o + 37) = 4 := by rcases h with rfl | rfl <;> decide +kernel
theorem jlo_38 {o : Nat} (h : o = 7 ∨ o = 57) : jln (o + 38) = 4 := by rcases h with rfl | rfl <;> decide +kernel
theorem jlo_49 {o : Nat} (h : o = 7 ∨ o = 57) : jln (o + 49) = 8 := by rcases h with rfl | rfl <;> decide +kernel
theorem jlo_5 {o : Nat} (h : o = 7 ∨ o = 57) : jln (o + 5) = 24 := by rcases h with rfl | rfl <;> decide +kernel
theorem jlo_40 {o : Nat} (h : o = 7 ∨ o = 57) : jln (o + 40) = 8 := by rcases h with rfl | rfl <;> decide +kernel
theorem zao_1 {o : Nat} (h : o = 7 ∨ o = 57) (M : SM) {k : Nat} (q : k < 12) : f_Sp_at (o + 1) (nI k) M = some (M.1 (o + 1) k) := z_at (jlo_1 h) q (by decide)
theorem zpo_1 {o : Nat} (h : o = 7 ∨ o = 57) (M : SM) {k : Nat} {v : Int32} (q : k < 12) : f_Sp_put (o + 1) (nI k) v M = some (sI M (o + 1) k v) := z_put (jlo_1 h) q (by decide)
theorem zao_2 {o : Nat} (h : o = 7 ∨ o = 57) (M : SM) {k : Nat} (q : k < 12) : f_Sp_at (o + 2) (nI k) M = some (M.1 (o + 2) k) := z_at (jlo_2 h) q (by decide)
theorem zpo_2 {o : Nat} (h : o = 7 ∨ o = 57) (M : SM) {k : Nat} {v : Int32} (q : k < 12) : f_Sp_put (o + 2) (nI k) v M = some (sI M (o + 2) k v) := z_put (jlo_2 h) q (by decide)
theorem zao_3 {o : Nat} (h : o = 7 ∨ o = 57) (M : SM) {k : Nat} (q : k < 12) : f_Sp_at (o + 3) (nI k) M = some (M.1 (o + 3) k) := z_at (jlo_3 h) q (by decide)
theorem zpo_3 {o : Nat} (h : o = 7 ∨ o = 57) (M : SM) {k : Nat} {v : Int32} (q : k < 12) : f_Sp_put (o + 3) (nI k) v M = some (sI M (o + 3) k v) := z_put (jlo_3 h) q (by decide)
theorem zao_4 {o : Nat} (h : o = 7 ∨ o = 57) (M : SM) {k : Nat} (q : k < 8) : f_Sp_at (o + 4) (nI k) M = some (M.1 (o + 4) k) := z_at (jlo_4 h) q (by decide)
theorem zpo_4 {o : Nat} (h : o = 7 ∨ o = 57) (M : SM) {k : Nat} {v : Int32} (q : k < 8) : f_Sp_put (o + 4) (nI k) v M = some (sI M (o + 4) k v) := z_put (jlo_4 h) q (by decide)
theorem zao_31 {o : Nat} (h : o = 7 ∨ o = 57) (M : SM) {k : Nat} (q : k < 4) : f_Sp_at (o + 31) (nI k) M = some (M.1 (o + 31) k) := z_at (jlo_31 h) q (by decide)
theorem zpo_31 {o : Nat} (h : o = 7 ∨ o = 57) (M : SM) {k : Nat} {v : Int32} (q : k < 4) : f_Sp_put (o + 31) (nI k) v M = some (sI M (o + 31) k v) := z_put (jlo_31 h) q (by decide)
theorem zao_32 {o : Nat} (h : o = 7 ∨ o = 57) (M : SM) {k : Nat} (q : k < 4) : f_Sp_at (o + 32) (nI k) M = some (M.1 (o + 32) k) := z_at (jlo_32 h) q (by decide)
theorem zpo_32 {o : Nat} (h : o = 7 ∨ o = 57) (M : SM) {k : Nat} {v : Int32} (q : k < 4) : f_Sp_put (o + 32) (nI k) v M = some (sI M (o + 32) k v) := z_put (jlo_32 h) q (by decide)
theorem zao_34 {o : Nat} (h : o = 7 ∨ o = 57) (M : SM) {k : Nat} (q : k < 4) : f_Sp_at (o + 34) (nI k) M = some (M.1 (o + 34) k) := z_at (jlo_34 h) q (by decide)
theorem zpo_34 {o : Nat} (h : o = 7 ∨ o = 57) (M : SM) {k : Nat} {v : Int32} (q : k < 4) : f_Sp_put (o + 34) (nI k) v M = some (sI M (o + 34) k v) := z_put (jlo_34 h) q (by decide)
theorem zao_35 {o : Nat} (h : o = 7 ∨ o = 57) (M : SM) {k : Nat} (q : k < 4) : f_Sp_at (o + 35) (nI k) M = some (M.1 (o + 35) k) := z_at (jlo_35 h) q (by decide)
theorem zpo_35 {o : Nat} (h : o = 7 ∨ o = 57) (M : SM) {k : Nat} {v : Int32} (q : k < 4) : f_Sp_put (o + 35) (nI k) v M = some (sI M (o + 35) k v) := z_put (jlo_35 h) q (by decide)
theorem zao_37 {o : Nat} (h : o = 7 ∨ o = 57) (M : SM) {k : Nat} (q : k < 4) : f_Sp_at (o + 37) (nI k) M = some (M.1 (o + 37) k) := z_at (jlo_37 h) q (by decide)
theorem zpo_37 {o : Nat} (h : o = 7 ∨ o = 57) (M : SM) {k : Nat} {v : Int32} (q : k < 4) : f_Sp_put (o + 37) (nI k) v M = some (sI M (o + 37) k v) := z_put (jlo_37 h) q (by decide)
theorem zao_38 {o : Nat} (h : o = 7 ∨ o = 57) (M : SM) {k : Nat} (q : k < 4) : f_Sp_at (o + 38) (nI k) M = some (M.1 (o + 38) k) := z_at (jlo_38 h) q (by decide)
theorem zpo_38 {o : Nat} (h : o = 7 ∨ o = 57) (M : SM) {k : Nat} {v : Int32} (q : k < 4) : f_Sp_put (o + 38) (nI k) v M = some (sI M (o + 38) k v) := z_put (jlo_38 h) q (by decide)
theorem zao_49 {o : Nat} (h : o = 7 ∨ o = 57) (M : SM) {k : Nat} (q : k < 8) : f_Sp_at (o + 49) (nI k) M = some (M.1 (o + 49) k) := z_at (jlo_49 h) q (by decide)
theorem zpo_49 {o : Nat} (h : o = 7 ∨ o = 57) (M : SM) {k : Nat} {v : Int32} (q : k < 8) : f_Sp_put (o + 49) (nI k) v M = some (sI M (o + 49) k v) := z_put (jlo_49 h) q (by decide)
theorem jg_111 : ∀ k, k < 20 → jpf 111 k = 112 + k ∧ jln (112 + k) = 60 := by decide +kernel
theorem zc_111 (M : SM) {i k : Nat} (h1 : i < 20) (h2 : k < 60) : f_Sp_cellOf 111 (nI i) (nI k) M = some (M.1 (112 + i) k) := z_cof jl_111 h1 (jg_111 i h1).1 (jg_111 i h1).2 h2 (by decide) (by decide)
theorem zq_111 (M : SM) {i k : Nat} {v : Int32} (h1 : i < 20) (h2 : k < 60) : f_Sp_putCell 111 (nI i) (nI k) v M = some (sI M (112 + i) k v) := z_pc jl_111 h1 (jg_111 i h1).1 (jg_111 i h1).2 h2 (by decide) (by decide)
theorem jg_133 : ∀ k, k < 61 → jpf 133 k = 134 + k ∧ jln (134 + k) = 12 := by decide +kernel
theorem zc_133 (M : SM) {i k : Nat} (h1 : i < 61) (h2 : k < 12) : f_Sp_cellOf 133 (nI i) (nI k) M = some (M.1 (134 + i) k) := z_cof jl_133 h1 (jg_133 i h1).1 (jg_133 i h1).2 h2 (by decide) (by decide)
theorem zq_133 (M : SM) {i k : Nat} {v : Int32} (h1 : i < 61) (h2 : k < 12) : f_Sp_putCell 133 (nI i) (nI k) v M = some (sI M (134 + i) k v) := z_pc jl_133 h1 (jg_133 i h1).1 (jg_133 i h1).2 h2 (by decide) (by decide)
theorem jg_195 : ∀ k, k < 61 → jpf 195 k = 196 + k ∧ jln (196 + k) = 4 := by decide +kernel
theorem zc_195 (M : SM) {i k : Nat} (h1 : i < 61) (h2 : k < 4) : f_Sp_cellOf 195 (nI i) (nI k) M = some (M.1 (196 + i) k) := z_cof jl_195 h1 (jg_195 i h1).1 (jg_195 i h1).2 h2 (by decide) (by decide)
theorem zq_195 (M : SM) {i k : Nat} {v : Int32} (h1 : i < 61) (h2 : k < 4) : f_Sp_putCell 195 (nI i) (nI k) v M = some (sI M (196 + i) k v) := z_pc jl_195 h1 (jg_195 i h1).1 (jg_195 i h1).2 h2 (by decide) (by decide)
theorem jg_257 : ∀ k, k < 61 → jpf 257 k = 258 + k ∧ jln (258 + k) = 6 := by decide +kernel
theorem zc_257 (M : SM) {i k : Nat} (h1 : i < 61) (h2 : k < 6) : f_Sp_cellOf 257 (nI i) (nI k) M = some (M.1 (258 + i) k) := z_cof jl_257 h1 (jg_257 i h1).1 (jg_257 i h1).2 h2 (by decide) (by decide)
theorem zq_257 (M : SM) {i k : Nat} {v : Int32} (h1 : i < 61) (h2 : k < 6) : f_Sp_putCell 257 (nI i) (nI k) v M = some (sI M (258 + i) k v) := z_pc jl_257 h1 (jg_257 i h1).1 (jg_257 i h1).2 h2 (by decide) (by decide)
theorem jg_323 : ∀ k, k < 40 → jpf 323 k = 324 + k ∧ jln (324 + k) = 61 := by decide +kernel
theorem zc_323 (M : SM) {i k : Nat} (h1 : i < 40) (h2 : k < 61) : f_Sp_cellOf 323 (nI i) (nI k) M = some (M.1 (324 + i) k) := z_cof jl_323 h1 (jg_323 i h1).1 (jg_323 i h1).2 h2 (by decide) (by decide)
theorem zq_323 (M : SM) {i k : Nat} {v : Int32} (h1 : i < 40) (h2 : k < 61) : f_Sp_putCell 323 (nI i) (nI k) v M = some (sI M (324 + i) k v) := z_pc jl_323 h1 (jg_323 i h1).1 (jg_323 i h1).2 h2 (by decide) (by decide)
theorem jgo_5 {o : Nat} (h : o = 7 ∨ o = 57) : ∀ k, k < 24 → jpf (o + 5) k = o + 6 + k ∧ jln (o + 6 + k) = 6 := by rcases h with rfl | rfl <;> decide +kernel
theorem zco_5 {o : Nat} (h : o = 7 ∨ o = 57) (M : SM) {i k : Nat} (h1 : i < 24) (h2 : k < 6) : f_Sp_cellOf (o + 5) (nI i) (nI k) M = some (M.1 (o + 6 + i) k) := z_cof (jlo_5 h) h1 (jgo_5 h i h1).1 (jgo_5 h i h1).2 h2 (by decide) (by decide)
theorem zqo_5 {o : Nat} (h : o = 7 ∨ o = 57) (M : SM) {i k : Nat} {v : Int32} (h1 : i < 24) (h2 : k < 6) : f_Sp_putCell (o + 5) (nI i) (nI k) v M = some (sI M (o + 6 + i) k v) := z_pc (jlo_5 h) h1 (jgo_5 h i h1).1 (jgo_5 h i h1).2 h2 (by decide) (by decide)
theorem jgo_40 {o : Nat} (h : o = 7 ∨ o = 57) : ∀ k, k < 8 → jpf (o + 40) k = o + 41 + k ∧ jln (o + 41 + k) = 60 := by rcases h with rfl | rfl <;> decide +kernel
theorem zco_40 {o : Nat} (h : o = 7 ∨ o = 57) (M : SM) {i k : Nat} (h1 : i < 8) (h2 : k < 60) : f_Sp_cellOf (o + 40) (nI i) (nI k) M = some (M.1 (o + 41 + i) k) := z_cof (jlo_40 h) h1 (jgo_40 h i h1).1 (jgo_40 h i h1).2 h2 (by decide) (by decide)
theorem zqo_40 {o : Nat} (h : o = 7 ∨ o = 57) (M : SM) {i k : Nat} {v : Int32} (h1 : i < 8) (h2 : k < 60) : f_Sp_putCell (o + 40) (nI i) (nI k) v M = some (sI M (o + 41 + i) k v) := z_pc (jlo_40 h) h1 (jgo_40 h i h1).1 (jgo_40 h i h1).2 h2 (by decide) (by decide)
