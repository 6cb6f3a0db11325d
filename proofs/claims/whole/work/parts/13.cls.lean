def lp_JA_fill_5 (y0 : Nat) (y1 : Int32) (y3 : Int32) : Nat → Int32 → SM → Option (SM)
  | 0, _, _ => none
  | n + 1, x2, M => if x2 < y3 then ((aS M y0 x2 y1).bind fun M2 => lp_JA_fill_5 y0 y1 y3 n (x2 + 1) M2) else (some M)
def f_JA_fill (a0 : Nat) (a1 : Int32) (M : SM) : Option SM := (lp_JA_fill_5 a0 a1 (nI (jln a0)) jfuel 0 M).bind fun q3 => some q3
section
variable {p : Program} {l : Launch} {e : Env} {R : Room} {s : State} {m : MethodId} {args : Array Value} {below : List Frame} {meth : Method} {c : Code} {G : JG} {D : Nat} {Q : State → Prop}
set_option maxHeartbeats 4000000 in
set_option maxRecDepth 20000 in
theorem K_JA_fill (C : jCx p R s m args meth c G jb_JA_fill 4 D "java/util/Arrays") (F : jF G = false) (hD : 1 ≤ D) (a0 : Nat) (a1 : Int32) (hp0 : jkd a0 100) (M : SM) (X : SM → Prop) (hR : ∀ M', X M' → ∀ (pc : Nat) (ls : List (Option Value)), decode jb_JA_fill pc = .ok (.return_, 1) → Wk p l e R s m args below meth c G 4 Q 0 0 jN0 (jce G M') pc ls []) : J X (f_JA_fill a0 a1 M) (Wk p l e R s m args below meth c G 4 Q 0 0 jN0 (jce G M) 0 [some (.ref a0), some (.int a1), none, none] []) := by
  unfold f_JA_fill
  refine J_mono (w_iconst_0 C (jd jdt_JA_fill 0 rfl)) ?_
  refine J_mono (w_istore_n (ls' := [some (.ref a0), some (.int a1), some (.int 0), none]) C (jd jdt_JA_fill 1 rfl) (by decide) rfl rfl) ?_
  refine J_mono (w_aload_n C (jd jdt_JA_fill 2 rfl) rfl) ?_
  refine J_mono (w_alen C (.inl hp0) (jd jdt_JA_fill 3 rfl)) ?_
  refine J_mono (w_istore_n (ls' := [some (.ref a0), some (.int a1), some (.int 0), some (.int (nI (jln a0)))]) C (jd jdt_JA_fill 4 rfl) (by decide) rfl rfl) ?_
  have L5 : ∀ (y0 : Nat) (y1 : Int32) (y3 : Int32) (hy0 : jkd y0 100) (n : Nat) (x2 : Int32) (M : SM), J (fun (q3 : SM) => Wk p l e R s m args below meth c G 4 Q 0 0 jN0 (jce G q3) 20 [none, none, none, none] []) (lp_JA_fill_5 y0 y1 y3 n x2 M) (Wk p l e R s m args below meth c G 4 Q 0 0 jN0 (jce G M) 5 [some (.ref y0), some (.int y1), some (.int x2), some (.int y3)] []) := by
    intro y0 y1 y3 hy0 n
    induction n with
    | zero => intro x2 M; exact J_none
    | succ n ih =>
      intro x2 M
      unfold lp_JA_fill_5
      refine J_mono (w_iload_n C (jd jdt_JA_fill 5 rfl) rfl) ?_
      refine J_mono (w_iload_n C (jd jdt_JA_fill 6 rfl) rfl) ?_
      refine J_br (w_icmp_ge C (jd jdt_JA_fill 7 rfl) rfl) (fun h1 => J_pos h1 ?_) (fun h1 => J_neg h1 ?_)
      · refine J_mono (w_aload_n C (jd jdt_JA_fill 8 rfl) rfl) ?_
        refine J_mono (w_iload_n C (jd jdt_JA_fill 9 rfl) rfl) ?_
        refine J_mono (w_iload_n C (jd jdt_JA_fill 10 rfl) rfl) ?_
        refine J_bind (fun M2 hM2 => ?_)
        refine J_mono (w_iast C F hy0 hM2 (jd jdt_JA_fill 11 rfl)) ?_
        refine J_mono (w_iinc (v := x2 + 1) (ls' := [some (.ref y0), some (.int y1), some (.int (x2 + 1)), some (.int y3)]) C (jd jdt_JA_fill 12 rfl) rfl rfl (by decide) rfl rfl) ?_
        refine J_mono (w_goto C (jd jdt_JA_fill 13 rfl) rfl) ?_
        exact J_sub (ih (x2 + 1) M2) ⟨rfl, rfl, rfl, rfl, trivial⟩
      · exact J_some (fun hx => Wk_sb hx trivial)
  refine J_seq (fun (q3 : SM) => Wk p l e R s m args below meth c G 4 Q 0 0 jN0 (jce G q3) 20 [none, none, none, none] []) (J_sub (L5 a0 a1 (nI (jln a0)) hp0 jfuel 0 M) ⟨rfl, rfl, rfl, rfl, trivial⟩) (fun q3 hq3 => ?_)
  exact J_some (fun hx => hR q3 hx _ _ (jd jdt_JA_fill 14 rfl))
end
theorem C_JA_fill (l : Launch) (G : JG) (F : jF G = false) (a0 : Nat) (a1 : Int32) (hp0 : jkd a0 100) (M : SM) {q : SM} (hf : f_JA_fill a0 a1 M = some q) : jMet l jy_JA_fill jb_JA_fill 4 none 1 0 0 G [.ref a0, .int a1] jN0 (jce G M) none jN0 (jce G q) :=
  j_met jo_JA_fill (by decide) (Nat.le_of_ble_eq_true rfl) (fun p e s m args below meth c C hr hm => K_JA_fill C F (Nat.le_refl _) a0 a1 hp0 M (fun t => t = q) (fun M' hX pc ls hd => by cases hX; exact w_vret C hr hd) _ hf rfl)
def f_Op_clear (a0 : Nat) (M : SM) : Option SM := (f_JA_fill (jpf a0 5) 0 (sI (sI (sI (sI (sI (sI (sI (sI M a0 0 0) a0 1 0) a0 2 0) a0 3 99) a0 4 0) (jpf a0 10) 2 0) (jpf a0 11) 2 0) (jpf a0 12) 2 0)).bind fun q1 => (f_JA_fill (jpf a0 6) 0 q1).bind fun q2 => (f_JA_fill (jpf a0 7) 0 q2).bind fun q3 => some q3
section
variable {p : Program} {l : Launch} {e : Env} {R : Room} {s : State} {m : MethodId} {args : Array Value} {below : List Frame} {meth : Method} {c : Code} {G : JG} {D : Nat} {Q : State → Prop}
set_option maxHeartbeats 4000000 in
set_option maxRecDepth 20000 in
theorem K_Op_clear (C : jCx p R s m args meth c G jb_Op_clear 1 D "SluicePit$Opera") (F : jF G = false) (hD : 2 ≤ D) (a0 : Nat) (hp0 : jkd a0 1) (M : SM) (X : SM → Prop) (hR : ∀ M', X M' → ∀ (pc : Nat) (ls : List (Option Value)), decode jb_Op_clear pc = .ok (.return_, 1) → Wk p l e R s m args below meth c G 1 Q 0 0 jN0 (jce G M') pc ls []) : J X (f_Op_clear a0 M) (Wk p l e R s m args below meth c G 1 Q 0 0 jN0 (jce G M) 0 [some (.ref a0)] []) := by
  unfold f_Op_clear
  refine J_mono (w_aload_n C (jd jdt_Op_clear 0 rfl) rfl) ?_
  refine J_mono (w_iconst_0 C (jd jdt_Op_clear 1 rfl)) ?_
  refine J_mono (jp_Op_52 C F hp0 (jd jdt_Op_clear 2 rfl)) ?_
  refine J_mono (w_aload_n C (jd jdt_Op_clear 3 rfl) rfl) ?_
  refine J_mono (w_iconst_0 C (jd jdt_Op_clear 4 rfl)) ?_
  refine J_mono (jp_Op_56 C F hp0 (jd jdt_Op_clear 5 rfl)) ?_
  refine J_mono (w_aload_n C (jd jdt_Op_clear 6 rfl) rfl) ?_
  refine J_mono (w_iconst_0 C (jd jdt_Op_clear 7 rfl)) ?_
  refine J_mono (jp_Op_59 C F hp0 (jd jdt_Op_clear 8 rfl)) ?_
  refine J_mono (w_aload_n C (jd jdt_Op_clear 9 rfl) rfl) ?_
  refine J_mono (w_bipush_99 C (jd jdt_Op_clear 10 rfl)) ?_
  refine J_mono (jp_Op_62 C F hp0 (jd jdt_Op_clear 11 rfl)) ?_
  refine J_mono (w_aload_n C (jd jdt_Op_clear 12 rfl) rfl) ?_
  refine J_mono (w_iconst_0 C (jd jdt_Op_clear 13 rfl)) ?_
  refine J_mono (jp_Op_65 C F hp0 (jd jdt_Op_clear 14 rfl)) ?_
  refine J_mono (w_aload_n C (jd jdt_Op_clear 15 rfl) rfl) ?_
  refine J_mono (jg_Op_32 C hp0 (jd jdt_Op_clear 16 rfl)) ?_
  refine J_mono (w_iconst_0 C (jd jdt_Op_clear 17 rfl)) ?_
  refine J_mono (jp_Op_68 C F (jkf_1_10 hp0) (jd jdt_Op_clear 18 rfl)) ?_
  refine J_mono (w_aload_n C (jd jdt_Op_clear 19 rfl) rfl) ?_
  refine J_mono (jg_Op_36 C hp0 (jd jdt_Op_clear 20 rfl)) ?_
  refine J_mono (w_iconst_0 C (jd jdt_Op_clear 21 rfl)) ?_
  refine J_mono (jp_Op_68 C F (jkf_1_11 hp0) (jd jdt_Op_clear 22 rfl)) ?_
  refine J_mono (w_aload_n C (jd jdt_Op_clear 23 rfl) rfl) ?_
  refine J_mono (jg_Op_39 C hp0 (jd jdt_Op_clear 24 rfl)) ?_
  refine J_mono (w_iconst_0 C (jd jdt_Op_clear 25 rfl)) ?_
  refine J_mono (jp_Op_68 C F (jkf_1_12 hp0) (jd jdt_Op_clear 26 rfl)) ?_
  refine J_mono (w_aload_n C (jd jdt_Op_clear 27 rfl) rfl) ?_
  refine J_mono (jg_Op_9 C hp0 (jd jdt_Op_clear 28 rfl)) ?_
  refine J_mono (w_iconst_0 C (jd jdt_Op_clear 29 rfl)) ?_
  refine J_bind (fun q1 hq1 => ?_)
  refine J_mono (jc_Op_71 C (C_JA_fill l G F (jpf a0 5) 0 (jkf_1_5 hp0) (sI (sI (sI (sI (sI (sI (sI (sI M a0 0 0) a0 1 0) a0 2 0) a0 3 99) a0 4 0) (jpf a0 10) 2 0) (jpf a0 11) 2 0) (jpf a0 12) 2 0) hq1) rfl (Nat.le_trans (Nat.le_of_ble_eq_true rfl : 1 + 1 ≤ 2) hD) (jd jdt_Op_clear 30 rfl)) ?_
  refine J_mono (w_aload_n C (jd jdt_Op_clear 31 rfl) rfl) ?_
  refine J_mono (jg_Op_15 C hp0 (jd jdt_Op_clear 32 rfl)) ?_
  refine J_mono (w_iconst_0 C (jd jdt_Op_clear 33 rfl)) ?_
  refine J_bind (fun q2 hq2 => ?_)
  refine J_mono (jc_Op_71 C (C_JA_fill l G F (jpf a0 6) 0 (jkf_1_6 hp0) q1 hq2) rfl (Nat.le_trans (Nat.le_of_ble_eq_true rfl : 1 + 1 ≤ 2) hD) (jd jdt_Op_clear 34 rfl)) ?_
  refine J_mono (w_aload_n C (jd jdt_Op_clear 35 rfl) rfl) ?_
  refine J_mono (jg_Op_18 C hp0 (jd jdt_Op_clear 36 rfl)) ?_
  refine J_mono (w_iconst_0 C (jd jdt_Op_clear 37 rfl)) ?_
  refine J_bind (fun q3 hq3 => ?_)
  refine J_mono (jc_Op_71 C (C_JA_fill l G F (jpf a0 7) 0 (jkf_1_7 hp0) q2 hq3) rfl (Nat.le_trans (Nat.le_of_ble_eq_true rfl : 1 + 1 ≤ 2) hD) (jd jdt_Op_clear 38 rfl)) ?_
  exact J_some (fun hx => hR q3 hx _ _ (jd jdt_Op_clear 39 rfl))
end
theorem C_Op_clear (l : Launch) (G : JG) (F : jF G = false) (a0 : Nat) (hp0 : jkd a0 1) (M : SM) {q : SM} (hf : f_Op_clear a0 M = some q) : jMet l jy_Op_clear jb_Op_clear 1 none 2 0 0 G [.ref a0] jN0 (jce G M) none jN0 (jce G q) :=
  j_met jo_Op_clear (by decide) (Nat.le_of_ble_eq_true rfl) (fun p e s m args below meth c C hr hm => K_Op_clear C F (Nat.le_refl _) a0 hp0 M (fun t => t = q) (fun M' hX pc ls hd => by cases hX; exact w_vret C hr hd) _ hf rfl)
def f_Ac_forget (a0 : Nat) (M : SM) : Option SM := some (sI (sI M a0 3 0) a0 4 0)
section
variable {p : Program} {l : Launch} {e : Env} {R : Room} {s : State} {m : MethodId} {args : Array Value} {below : List Frame} {meth : Method} {c : Code} {G : JG} {D : Nat} {Q : State → Prop}
set_option maxHeartbeats 4000000 in
set_option maxRecDepth 20000 in
theorem K_Ac_forget (C : jCx p R s m args meth c G jb_Ac_forget 1 D "SluicePit$Acts") (F : jF G = false) (hD : 1 ≤ D) (a0 : Nat) (hp0 : jkd a0 0) (M : SM) (X : SM → Prop) (hR : ∀ M', X M' → ∀ (pc : Nat) (ls : List (Option Value)), decode jb_Ac_forget pc = .ok (.return_, 1) → Wk p l e R s m args below meth c G 1 Q 0 0 jN0 (jce G M') pc ls []) : J X (f_Ac_forget a0 M) (Wk p l e R s m args below meth c G 1 Q 0 0 jN0 (jce G M) 0 [some (.ref a0)] []) := by
  unfold f_Ac_forget
  refine J_mono (w_aload_n C (jd jdt_Ac_forget 0 rfl) rfl) ?_
  refine J_mono (w_iconst_0 C (jd jdt_Ac_forget 1 rfl)) ?_
  refine J_mono (jp_Ac_26 C F hp0 (jd jdt_Ac_forget 2 rfl)) ?_
  refine J_mono (w_aload_n C (jd jdt_Ac_forget 3 rfl) rfl) ?_
  refine J_mono (w_iconst_0 C (jd jdt_Ac_forget 4 rfl)) ?_
  refine J_mono (jp_Ac_30 C F hp0 (jd jdt_Ac_forget 5 rfl)) ?_
  exact J_some (fun hx => hR (sI (sI M a0 3 0) a0 4 0) hx _ _ (jd jdt_Ac_forget 6 rfl))
end
theorem C_Ac_forget (l : Launch) (G : JG) (F : jF G = false) (a0 : Nat) (hp0 : jkd a0 0) (M : SM) {q : SM} (hf : f_Ac_forget a0 M = some q) : jMet l jy_Ac_forget jb_Ac_forget 1 none 1 0 0 G [.ref a0] jN0 (jce G M) none jN0 (jce G q) :=
  j_met jo_Ac_forget (by decide) (Nat.le_of_ble_eq_true rfl) (fun p e s m args below meth c C hr hm => K_Ac_forget C F (Nat.le_refl _) a0 hp0 M (fun t => t = q) (fun M' hX pc ls hd => by cases hX; exact w_vret C hr hd) _ hf rfl)
def f_Po_suppose (a0 : Nat) (M : SM) : Option SM := some (sI (sI (sI (sI M a0 7 0) a0 8 (-1)) a0 9 0) a0 10 0)
section
variable {p : Program} {l : Launch} {e : Env} {R : Room} {s : State} {m : MethodId} {args : Array Value} {below : List Frame} {meth : Method} {c : Code} {G : JG} {D : Nat} {Q : State → Prop}
set_option maxHeartbeats 4000000 in
set_option maxRecDepth 20000 in
theorem K_Po_suppose (C : jCx p R s m args meth c G jb_Po_suppose 1 D "SluicePit$Pool") (F : jF G = false) (hD : 1 ≤ D) (a0 : Nat) (hp0 : jkd a0 5) (M : SM) (X : SM → Prop) (hR : ∀ M', X M' → ∀ (pc : Nat) (ls : List (Option Value)), decode jb_Po_suppose pc = .ok (.return_, 1) → Wk p l e R s m args below meth c G 1 Q 0 0 jN0 (jce G M') pc ls []) : J X (f_Po_suppose a0 M) (Wk p l e R s m args below meth c G 1 Q 0 0 jN0 (jce G M) 0 [some (.ref a0)] []) := by
  unfold f_Po_suppose
  refine J_mono (w_aload_n C (jd jdt_Po_suppose 0 rfl) rfl) ?_
  refine J_mono (w_iconst_0 C (jd jdt_Po_suppose 1 rfl)) ?_
  refine J_mono (jp_Po_21 C F hp0 (jd jdt_Po_suppose 2 rfl)) ?_
  refine J_mono (w_aload_n C (jd jdt_Po_suppose 3 rfl) rfl) ?_
  refine J_mono (w_iconst_m1 C (jd jdt_Po_suppose 4 rfl)) ?_
  refine J_mono (jp_Po_25 C F hp0 (jd jdt_Po_suppose 5 rfl)) ?_
  refine J_mono (w_aload_n C (jd jdt_Po_suppose 6 rfl) rfl) ?_
  refine J_mono (w_iconst_0 C (jd jdt_Po_suppose 7 rfl)) ?_
  refine J_mono (jp_Po_28 C F hp0 (jd jdt_Po_suppose 8 rfl)) ?_
  refine J_mono (w_aload_n C (jd jdt_Po_suppose 9 rfl) rfl) ?_
  refine J_mono (w_iconst_0 C (jd jdt_Po_suppose 10 rfl)) ?_
  refine J_mono (jp_Po_31 C F hp0 (jd jdt_Po_suppose 11 rfl)) ?_
  exact J_some (fun hx => hR (sI (sI (sI (sI M a0 7 0) a0 8 (-1)) a0 9 0) a0 10 0) hx _ _ (jd jdt_Po_suppose 12 rfl))
end
theorem C_Po_suppose (l : Launch) (G : JG) (F : jF G = false) (a0 : Nat) (hp0 : jkd a0 5) (M : SM) {q : SM} (hf : f_Po_suppose a0 M = some q) : jMet l jy_Po_suppose jb_Po_suppose 1 none 1 0 0 G [.ref a0] jN0 (jce G M) none jN0 (jce G q) :=
  j_met jo_Po_suppose (by decide) (Nat.le_of_ble_eq_true rfl) (fun p e s m args below meth c C hr hm => K_Po_suppose C F (Nat.le_refl _) a0 hp0 M (fun t => t = q) (fun M' hX pc ls hd => by cases hX; exact w_vret C hr hd) _ hf rfl)
def f_Sp_put (a0 : Nat) (a1 : Int32) (a2 : Int32) (M : SM) : Option SM := if a1 < 0 then (some M) else (if a1 < (nI (jln a0)) then ((aS M a0 a1 a2).bind fun M3 => some M3) else (some M))
section
variable {p : Program} {l : Launch} {e : Env} {R : Room} {s : State} {m : MethodId} {args : Array Value} {below : List Frame} {meth : Method} {c : Code} {G : JG} {D : Nat} {Q : State → Prop}
set_option maxHeartbeats 4000000 in
set_option maxRecDepth 20000 in
theorem K_Sp_put (C : jCx p R s m args meth c G jb_Sp_put 3 D "SluicePit") (F : jF G = false) (hD : 1 ≤ D) (a0 : Nat) (a1 : Int32) (a2 : Int32) (hp0 : jkd a0 100) (M : SM) (X : SM → Prop) (hR : ∀ M', X M' → ∀ (pc : Nat) (ls : List (Option Value)), decode jb_Sp_put pc = .ok (.return_, 1) → Wk p l e R s m args below meth c G 3 Q 0 0 jN0 (jce G M') pc ls []) : J X (f_Sp_put a0 a1 a2 M) (Wk p l e R s m args below meth c G 3 Q 0 0 jN0 (jce G M) 0 [some (.ref a0), some (.int a1), some (.int a2)] []) := by
  unfold f_Sp_put
  refine J_mono (w_iload_n C (jd jdt_Sp_put 0 rfl) rfl) ?_
  refine J_br (w_if_lt (y := 0) C (jd jdt_Sp_put 1 rfl) rfl) (fun h1 => J_pos h1 ?_) (fun h1 => J_neg h1 ?_)
  · exact J_some (fun hx => hR M hx _ _ (jd jdt_Sp_put 10 rfl))
  · refine J_mono (w_iload_n C (jd jdt_Sp_put 2 rfl) rfl) ?_
    refine J_mono (w_aload_n C (jd jdt_Sp_put 3 rfl) rfl) ?_
    refine J_mono (w_alen C (.inl hp0) (jd jdt_Sp_put 4 rfl)) ?_
    refine J_br (w_icmp_ge C (jd jdt_Sp_put 5 rfl) rfl) (fun h2 => J_pos h2 ?_) (fun h2 => J_neg h2 ?_)
    · refine J_mono (w_aload_n C (jd jdt_Sp_put 6 rfl) rfl) ?_
      refine J_mono (w_iload_n C (jd jdt_Sp_put 7 rfl) rfl) ?_
      refine J_mono (w_iload_n C (jd jdt_Sp_put 8 rfl) rfl) ?_
      refine J_bind (fun M3 hM3 => ?_)
      refine J_mono (w_iast C F hp0 hM3 (jd jdt_Sp_put 9 rfl)) ?_
      exact J_some (fun hx => hR M3 hx _ _ (jd jdt_Sp_put 10 rfl))
    · exact J_some (fun hx => hR M hx _ _ (jd jdt_Sp_put 10 rfl))
end
theorem C_Sp_put (l : Launch) (G : JG) (F : jF G = false) (a0 : Nat) (a1 : Int32) (a2 : Int32) (hp0 : jkd a0 100) (M : SM) {q : SM} (hf : f_Sp_put a0 a1 a2 M = some q) : jMet l jy_Sp_put jb_Sp_put 3 none 1 0 0 G [.ref a0, .int a1, .int a2] jN0 (jce G M) none jN0 (jce G q) :=
  j_met jo_Sp_put (by decide) (Nat.le_of_ble_eq_true rfl) (fun p e s m args below meth c C hr hm => K_Sp_put C F (Nat.le_refl _) a0 a1 a2 hp0 M (fun t => t = q) (fun M' hX pc ls hd => by cases hX; exact w_vret C hr hd) _ hf rfl)
def lp_Ta_addFour_3 (y0 : Nat) (y1 : Int32) : Nat → Int32 → SM → Option (SM)
  | 0, _, _ => none
  | n + 1, x2, M => if x2 < 0 then (some M) else ((f_Sp_put (jpf y0 0) (M.1 y0 1) ((jush y1 x2) &&& 255) M).bind fun q2 => lp_Ta_addFour_3 y0 y1 n (x2 + (-8)) (sI q2 y0 1 ((q2.1 y0 1) + 1)))
def f_Ta_addFour (a0 : Nat) (a1 : Int32) (M : SM) : Option SM := (lp_Ta_addFour_3 a0 a1 jfuel 24 M).bind fun q3 => some q3
section
variable {p : Program} {l : Launch} {e : Env} {R : Room} {s : State} {m : MethodId} {args : Array Value} {below : List Frame} {meth : Method} {c : Code} {G : JG} {D : Nat} {Q : State → Prop}
set_option maxHeartbeats 4000000 in
set_option maxRecDepth 20000 in
theorem K_Ta_addFour (C : jCx p R s m args meth c G jb_Ta_addFour 3 D "SluicePit$Tape") (F : jF G = false) (hD : 2 ≤ D) (a0 : Nat) (a1 : Int32) (hp0 : jkd a0 10) (M : SM) (X : SM → Prop) (hR : ∀ M', X M' → ∀ (pc : Nat) (ls : List (Option Value)), decode jb_Ta_addFour pc = .ok (.return_, 1) → Wk p l e R s m args below meth c G 3 Q 0 0 jN0 (jce G M') pc ls []) : J X (f_Ta_addFour a0 a1 M) (Wk p l e R s m args below meth c G 3 Q 0 0 jN0 (jce G M) 0 [some (.ref a0), some (.int a1), none] []) := by
  unfold f_Ta_addFour
  refine J_mono (w_bipush_24 C (jd jdt_Ta_addFour 0 rfl)) ?_
  refine J_mono (w_istore_n (ls' := [some (.ref a0), some (.int a1), some (.int 24)]) C (jd jdt_Ta_addFour 1 rfl) (by decide) rfl rfl) ?_
  have L3 : ∀ (y0 : Nat) (y1 : Int32) (hy0 : jkd y0 10) (n : Nat) (x2 : Int32) (M : SM), J (fun (q3 : SM) => Wk p l e R s m args below meth c G 3 Q 0 0 jN0 (jce G q3) 41 [none, none, none] []) (lp_Ta_addFour_3 y0 y1 n x2 M) (Wk p l e R s m args below meth c G 3 Q 0 0 jN0 (jce G M) 3 [some (.ref y0), some (.int y1), some (.int x2)] []) := by
    intro y0 y1 hy0 n
    induction n with
    | zero => intro x2 M; exact J_none
    | succ n ih =>
      intro x2 M
      unfold lp_Ta_addFour_3
      refine J_mono (w_iload_n C (jd jdt_Ta_addFour 2 rfl) rfl) ?_
      refine J_br (w_if_lt (y := 0) C (jd jdt_Ta_addFour 3 rfl) rfl) (fun h1 => J_pos h1 ?_) (fun h1 => J_neg h1 ?_)
      · exact J_some (fun hx => Wk_sb hx trivial)
      · refine J_mono (w_aload_n C (jd jdt_Ta_addFour 4 rfl) rfl) ?_
        refine J_mono (jg_Ta_9 C hy0 (jd jdt_Ta_addFour 5 rfl)) ?_
        refine J_mono (w_aload_n C (jd jdt_Ta_addFour 6 rfl) rfl) ?_
        refine J_mono (jg_Ta_15 C hy0 (jd jdt_Ta_addFour 7 rfl)) ?_
        refine J_mono (w_iload_n C (jd jdt_Ta_addFour 8 rfl) rfl) ?_
        refine J_mono (w_iload_n C (jd jdt_Ta_addFour 9 rfl) rfl) ?_
        refine J_mono (w_iushr C (jd jdt_Ta_addFour 10 rfl)) ?_
        refine J_mono (w_sipush_255 C (jd jdt_Ta_addFour 11 rfl)) ?_
        refine J_mono (w_iand C (jd jdt_Ta_addFour 12 rfl)) ?_
        refine J_bind (fun q2 hq2 => ?_)
        refine J_mono (jc_Ta_19 C (C_Sp_put l G F (jpf y0 0) (M.1 y0 1) ((jush y1 x2) &&& 255) (jkf_10_0 hy0) M hq2) rfl (Nat.le_trans (Nat.le_of_ble_eq_true rfl : 1 + 1 ≤ 2) hD) (jd jdt_Ta_addFour 13 rfl)) ?_
        refine J_mono (w_aload_n C (jd jdt_Ta_addFour 14 rfl) rfl) ?_
        refine J_mono (w_dup_r C (jd jdt_Ta_addFour 15 rfl)) ?_
        refine J_mono (jg_Ta_15 C hy0 (jd jdt_Ta_addFour 16 rfl)) ?_
        refine J_mono (w_iconst_1 C (jd jdt_Ta_addFour 17 rfl)) ?_
        refine J_mono (w_iadd C (jd jdt_Ta_addFour 18 rfl)) ?_
        refine J_mono (jp_Ta_15 C F hy0 (jd jdt_Ta_addFour 19 rfl)) ?_
        refine J_mono (w_iinc (v := x2 + (-8)) (ls' := [some (.ref y0), some (.int y1), some (.int (x2 + (-8)))]) C (jd jdt_Ta_addFour 20 rfl) rfl rfl (by decide) rfl rfl) ?_
        refine J_mono (w_goto C (jd jdt_Ta_addFour 21 rfl) rfl) ?_
        exact J_sub (ih (x2 + (-8)) (sI q2 y0 1 ((q2.1 y0 1) + 1))) ⟨rfl, rfl, rfl, trivial⟩
  refine J_seq (fun (q3 : SM) => Wk p l e R s m args below meth c G 3 Q 0 0 jN0 (jce G q3) 41 [none, none, none] []) (J_sub (L3 a0 a1 hp0 jfuel 24 M) ⟨rfl, rfl, rfl, trivial⟩) (fun q3 hq3 => ?_)
  exact J_some (fun hx => hR q3 hx _ _ (jd jdt_Ta_addFour 22 rfl))
end
theorem C_Ta_addFour (l : Launch) (G : JG) (F : jF G = false) (a0 : Nat) (a1 : Int32) (hp0 : jkd a0 10) (M : SM) {q : SM} (hf : f_Ta_addFour a0 a1 M = some q) : jMet l jy_Ta_addFour jb_Ta_addFour 3 none 2 0 0 G [.ref a0, .int a1] jN0 (jce G M) none jN0 (jce G q) :=
  j_met jo_Ta_addFour (by decide) (Nat.le_of_ble_eq_true rfl) (fun p e s m args below meth c C hr hm => K_Ta_addFour C F (Nat.le_refl _) a0 a1 hp0 M (fun t => t = q) (fun M' hX pc ls hd => by cases hX; exact w_vret C hr hd) _ hf rfl)
def f_Sp_feed (a0 : Nat) (a1 : Int32) (a2 : Int32) (a3 : Int32) (a4 : Int32) (a5 : Int32) (M : SM) : Option (Int32 × SM) := if 1600 < ((M.1 (jpf a0 0) 1) + 20) then (some ((-1), M)) else ((f_Ta_addFour (jpf a0 0) a1 M).bind fun q2 => (f_Ta_addFour (jpf a0 0) a2 q2).bind fun q3 => (f_Ta_addFour (jpf a0 0) a3 q3).bind fun q4 => (f_Ta_addFour (jpf a0 0) a4 q4).bind fun q5 => (f_Ta_addFour (jpf a0 0) a5 q5).bind fun q6 => some (q6.1 (jpf a0 0) 1, q6))
section
variable {p : Program} {l : Launch} {e : Env} {R : Room} {s : State} {m : MethodId} {args : Array Value} {below : List Frame} {meth : Method} {c : Code} {G : JG} {D : Nat} {Q : State → Prop}
set_option maxHeartbeats 4000000 in
set_option maxRecDepth 20000 in
theorem K_Sp_feed (C : jCx p R s m args meth c G jb_Sp_feed 6 D "SluicePit") (F : jF G = false) (hD : 3 ≤ D) (a0 : Nat) (a1 : Int32) (a2 : Int32) (a3 : Int32) (a4 : Int32) (a5 : Int32) (hp0 : jkd a0 11) (M : SM) (X : (Int32 × SM) → Prop) (hR : ∀ v M', X (v, M') → ∀ (pc : Nat) (ls : List (Option Value)), decode jb_Sp_feed pc = .ok (.ireturn, 1) → narrow FieldType.int (.int v) = .int v → Wk p l e R s m args below meth c G 6 Q 0 0 jN0 (jce G M') pc ls [.int v]) : J X (f_Sp_feed a0 a1 a2 a3 a4 a5 M) (Wk p l e R s m args below meth c G 6 Q 0 0 jN0 (jce G M) 0 [some (.ref a0), some (.int a1), some (.int a2), some (.int a3), some (.int a4), some (.int a5)] []) := by
  unfold f_Sp_feed
  refine J_mono (w_aload_n C (jd jdt_Sp_feed 0 rfl) rfl) ?_
  refine J_mono (jg_Sp_12 C hp0 (jd jdt_Sp_feed 1 rfl)) ?_
  refine J_mono (jg_Sp_102 C (jkf_11_0 hp0) (jd jdt_Sp_feed 2 rfl)) ?_
  refine J_mono (w_bipush_20 C (jd jdt_Sp_feed 3 rfl)) ?_
  refine J_mono (w_iadd C (jd jdt_Sp_feed 4 rfl)) ?_
  refine J_mono (w_sipush_1600 C (jd jdt_Sp_feed 5 rfl)) ?_
  refine J_br (w_icmp_le C (jd jdt_Sp_feed 6 rfl) rfl) (fun h1 => J_pos h1 ?_) (fun h1 => J_neg h1 ?_)
  · refine J_mono (w_iconst_m1 C (jd jdt_Sp_feed 7 rfl)) ?_
    exact J_some (fun hx => hR (-1) M hx _ _ (jd jdt_Sp_feed 8 rfl) rfl)
  · refine J_mono (w_aload_n C (jd jdt_Sp_feed 9 rfl) rfl) ?_
    refine J_mono (jg_Sp_12 C hp0 (jd jdt_Sp_feed 10 rfl)) ?_
    refine J_mono (w_iload_n C (jd jdt_Sp_feed 11 rfl) rfl) ?_
    refine J_bind (fun q2 hq2 => ?_)
    refine J_mono (jc_Sp_105 C (jkf_11_0 hp0) (C_Ta_addFour l G F (jpf a0 0) a1 (jkf_11_0 hp0) M hq2) rfl (Nat.le_trans (Nat.le_of_ble_eq_true rfl : 2 + 1 ≤ 3) hD) (jd jdt_Sp_feed 12 rfl)) ?_
    refine J_mono (w_aload_n C (jd jdt_Sp_feed 13 rfl) rfl) ?_
    refine J_mono (jg_Sp_12 C hp0 (jd jdt_Sp_feed 14 rfl)) ?_
    refine J_mono (w_iload_n C (jd jdt_Sp_feed 15 rfl) rfl) ?_
    refine J_bind (fun q3 hq3 => ?_)
    refine J_mono (jc_Sp_105 C (jkf_11_0 hp0) (C_Ta_addFour l G F (jpf a0 0) a2 (jkf_11_0 hp0) q2 hq3) rfl (Nat.le_trans (Nat.le_of_ble_eq_true rfl : 2 + 1 ≤ 3) hD) (jd jdt_Sp_feed 16 rfl)) ?_
    refine J_mono (w_aload_n C (jd jdt_Sp_feed 17 rfl) rfl) ?_
    refine J_mono (jg_Sp_12 C hp0 (jd jdt_Sp_feed 18 rfl)) ?_
    refine J_mono (w_iload_n C (jd jdt_Sp_feed 19 rfl) rfl) ?_
    refine J_bind (fun q4 hq4 => ?_)
    refine J_mono (jc_Sp_105 C (jkf_11_0 hp0) (C_Ta_addFour l G F (jpf a0 0) a3 (jkf_11_0 hp0) q3 hq4) rfl (Nat.le_trans (Nat.le_of_ble_eq_true rfl : 2 + 1 ≤ 3) hD) (jd jdt_Sp_feed 20 rfl)) ?_
    refine J_mono (w_aload_n C (jd jdt_Sp_feed 21 rfl) rfl) ?_
    refine J_mono (jg_Sp_12 C hp0 (jd jdt_Sp_feed 22 rfl)) ?_
    refine J_mono (w_iload C (jd jdt_Sp_feed 23 rfl) rfl) ?_
    refine J_bind (fun q5 hq5 => ?_)
    refine J_mono (jc_Sp_105 C (jkf_11_0 hp0) (C_Ta_addFour l G F (jpf a0 0) a4 (jkf_11_0 hp0) q4 hq5) rfl (Nat.le_trans (Nat.le_of_ble_eq_true rfl : 2 + 1 ≤ 3) hD) (jd jdt_Sp_feed 24 rfl)) ?_
    refine J_mono (w_aload_n C (jd jdt_Sp_feed 25 rfl) rfl) ?_
    refine J_mono (jg_Sp_12 C hp0 (jd jdt_Sp_feed 26 rfl)) ?_
    refine J_mono (w_iload C (jd jdt_Sp_feed 27 rfl) rfl) ?_
    refine J_bind (fun q6 hq6 => ?_)
    refine J_mono (jc_Sp_105 C (jkf_11_0 hp0) (C_Ta_addFour l G F (jpf a0 0) a5 (jkf_11_0 hp0) q5 hq6) rfl (Nat.le_trans (Nat.le_of_ble_eq_true rfl : 2 + 1 ≤ 3) hD) (jd jdt_Sp_feed 28 rfl)) ?_
    refine J_mono (w_aload_n C (jd jdt_Sp_feed 29 rfl) rfl) ?_
    refine J_mono (jg_Sp_12 C hp0 (jd jdt_Sp_feed 30 rfl)) ?_
    refine J_mono (jg_Sp_102 C (jkf_11_0 hp0) (jd jdt_Sp_feed 31 rfl)) ?_
    exact J_some (fun hx => hR (q6.1 (jpf a0 0) 1) q6 hx _ _ (jd jdt_Sp_feed 32 rfl) rfl)
end
theorem C_Sp_feed (l : Launch) (G : JG) (F : jF G = false) (a0 : Nat) (a1 : Int32) (a2 : Int32) (a3 : Int32) (a4 : Int32) (a5 : Int32) (hp0 : jkd a0 11) (M : SM) {q : (Int32 × SM)} (hf : f_Sp_feed a0 a1 a2 a3 a4 a5 M = some q) : jMet l jy_Sp_feed jb_Sp_feed 6 (some FieldType.int) 3 0 0 G [.ref a0, .int a1, .int a2, .int a3, .int a4, .int a5] jN0 (jce G M) (some (.int q.1)) jN0 (jce G q.2) :=
  j_met jo_Sp_feed (by decide) (Nat.le_of_ble_eq_true rfl) (fun p e s m args below meth c C hr hm => K_Sp_feed C F (Nat.le_refl _) a0 a1 a2 a3 a4 a5 hp0 M (fun t => t = q) (fun v M' hX pc ls hd hn => by cases hX; exact w_iret C hr hn hd) _ hf rfl)
def f_Sp_end (a0 : Nat) (a1 : Int32) (M : SM) : Option (Int32 × SM) := if a1 < 0 then (some (0, M)) else (if (M.1 (jpf a0 0) 1) < a1 then (some (0, M)) else (some (1, sI M (jpf a0 0) 1 a1)))
section
variable {p : Program} {l : Launch} {e : Env} {R : Room} {s : State} {m : MethodId} {args : Array Value} {below : List Frame} {meth : Method} {c : Code} {G : JG} {D : Nat} {Q : State → Prop}
set_option maxHeartbeats 4000000 in
set_option maxRecDepth 20000 in
theorem K_Sp_end (C : jCx p R s m args meth c G jb_Sp_end 2 D "SluicePit") (F : jF G = false) (hD : 1 ≤ D) (a0 : Nat) (a1 : Int32) (hp0 : jkd a0 11) (M : SM) (X : (Int32 × SM) → Prop) (hR : ∀ v M', X (v, M') → ∀ (pc : Nat) (ls : List (Option Value)), decode jb_Sp_end pc = .ok (.ireturn, 1) → narrow FieldType.boolean (.int v) = .int v → Wk p l e R s m args below meth c G 2 Q 0 0 jN0 (jce G M') pc ls [.int v]) : J X (f_Sp_end a0 a1 M) (Wk p l e R s m args below meth c G 2 Q 0 0 jN0 (jce G M) 0 [some (.ref a0), some (.int a1)] []) := by
  unfold f_Sp_end
  refine J_mono (w_iload_n C (jd jdt_Sp_end 0 rfl) rfl) ?_
  refine J_br (w_if_lt (y := 0) C (jd jdt_Sp_end 1 rfl) rfl) (fun h1 => J_pos h1 ?_) (fun h1 => J_neg h1 ?_)
  · refine J_mono (w_iconst_0 C (jd jdt_Sp_end 7 rfl)) ?_
    exact J_some (fun hx => hR 0 M hx _ _ (jd jdt_Sp_end 8 rfl) rfl)
  · refine J_mono (w_iload_n C (jd jdt_Sp_end 2 rfl) rfl) ?_
    refine J_mono (w_aload_n C (jd jdt_Sp_end 3 rfl) rfl) ?_
    refine J_mono (jg_Sp_12 C hp0 (jd jdt_Sp_end 4 rfl)) ?_
    refine J_mono (jg_Sp_102 C (jkf_11_0 hp0) (jd jdt_Sp_end 5 rfl)) ?_
    refine J_br (w_icmp_le C (jd jdt_Sp_end 6 rfl) rfl) (fun h2 => J_pos h2 ?_) (fun h2 => J_neg h2 ?_)
    · refine J_mono (w_iconst_0 C (jd jdt_Sp_end 7 rfl)) ?_
      exact J_some (fun hx => hR 0 M hx _ _ (jd jdt_Sp_end 8 rfl) rfl)
    · refine J_mono (w_aload_n C (jd jdt_Sp_end 9 rfl) rfl) ?_
      refine J_mono (jg_Sp_12 C hp0 (jd jdt_Sp_end 10 rfl)) ?_
      refine J_mono (w_iload_n C (jd jdt_Sp_end 11 rfl) rfl) ?_
      refine J_mono (jp_Sp_102 C F (jkf_11_0 hp0) (jd jdt_Sp_end 12 rfl)) ?_
      refine J_mono (w_iconst_1 C (jd jdt_Sp_end 13 rfl)) ?_
      exact J_some (fun hx => hR 1 (sI M (jpf a0 0) 1 a1) hx _ _ (jd jdt_Sp_end 14 rfl) rfl)
end
theorem C_Sp_end (l : Launch) (G : JG) (F : jF G = false) (a0 : Nat) (a1 : Int32) (hp0 : jkd a0 11) (M : SM) {q : (Int32 × SM)} (hf : f_Sp_end a0 a1 M = some q) : jMet l jy_Sp_end jb_Sp_end 2 (some FieldType.boolean) 1 0 0 G [.ref a0, .int a1] jN0 (jce G M) (some (.int q.1)) jN0 (jce G q.2) :=
  j_met jo_Sp_end (by decide) (Nat.le_of_ble_eq_true rfl) (fun p e s m args below meth c C hr hm => K_Sp_end C F (Nat.le_refl _) a0 a1 hp0 M (fun t => t = q) (fun v M' hX pc ls hd hn => by cases hX; exact w_iret C hr hn hd) _ hf rfl)
def f_Ta_read (a0 : Nat) (a1 : Int32) (M : SM) : Option Int32 := if a1 < 0 then (some (-1)) else (if a1 < (M.1 a0 1) then (if a1 < (nI (jln (jpf a0 0))) then ((aI M (jpf a0 0) a1).bind fun v4 => some v4) else (some (-1))) else (some (-1)))
section
variable {p : Program} {l : Launch} {e : Env} {R : Room} {s : State} {m : MethodId} {args : Array Value} {below : List Frame} {meth : Method} {c : Code} {G : JG} {D : Nat} {Q : State → Prop}
set_option maxHeartbeats 4000000 in
set_option maxRecDepth 20000 in
theorem K_Ta_read (C : jCx p R s m args meth c G jb_Ta_read 2 D "SluicePit$Tape") (F : jF G = false) (hD : 1 ≤ D) (a0 : Nat) (a1 : Int32) (hp0 : jkd a0 10) (M : SM) (X : Int32 → Prop) (hR : ∀ v, X v → ∀ (pc : Nat) (ls : List (Option Value)), decode jb_Ta_read pc = .ok (.ireturn, 1) → narrow FieldType.int (.int v) = .int v → Wk p l e R s m args below meth c G 2 Q 0 0 jN0 (jce G M) pc ls [.int v]) : J X (f_Ta_read a0 a1 M) (Wk p l e R s m args below meth c G 2 Q 0 0 jN0 (jce G M) 0 [some (.ref a0), some (.int a1)] []) := by
  unfold f_Ta_read
  refine J_mono (w_iload_n C (jd jdt_Ta_read 0 rfl) rfl) ?_
  refine J_br (w_if_lt (y := 0) C (jd jdt_Ta_read 1 rfl) rfl) (fun h1 => J_pos h1 ?_) (fun h1 => J_neg h1 ?_)
  · refine J_mono (w_iconst_m1 C (jd jdt_Ta_read 16 rfl)) ?_
    exact J_some (fun hx => hR (-1) hx _ _ (jd jdt_Ta_read 17 rfl) rfl)
  · refine J_mono (w_iload_n C (jd jdt_Ta_read 2 rfl) rfl) ?_
    refine J_mono (w_aload_n C (jd jdt_Ta_read 3 rfl) rfl) ?_
    refine J_mono (jg_Ta_15 C hp0 (jd jdt_Ta_read 4 rfl)) ?_
    refine J_br (w_icmp_ge C (jd jdt_Ta_read 5 rfl) rfl) (fun h2 => J_pos h2 ?_) (fun h2 => J_neg h2 ?_)
    · refine J_mono (w_iload_n C (jd jdt_Ta_read 6 rfl) rfl) ?_
      refine J_mono (w_aload_n C (jd jdt_Ta_read 7 rfl) rfl) ?_
      refine J_mono (jg_Ta_9 C hp0 (jd jdt_Ta_read 8 rfl)) ?_
      refine J_mono (w_alen C (.inl (jkf_10_0 hp0)) (jd jdt_Ta_read 9 rfl)) ?_
      refine J_br (w_icmp_ge C (jd jdt_Ta_read 10 rfl) rfl) (fun h3 => J_pos h3 ?_) (fun h3 => J_neg h3 ?_)
      · refine J_mono (w_aload_n C (jd jdt_Ta_read 11 rfl) rfl) ?_
        refine J_mono (jg_Ta_9 C hp0 (jd jdt_Ta_read 12 rfl)) ?_
        refine J_mono (w_iload_n C (jd jdt_Ta_read 13 rfl) rfl) ?_
        refine J_bind (fun v4 hv4 => ?_)
        refine J_mono (w_iald C (jkf_10_0 hp0) hv4 (jd jdt_Ta_read 14 rfl)) ?_
        refine J_mono (w_goto C (jd jdt_Ta_read 15 rfl) rfl) ?_
        exact J_some (fun hx => hR v4 hx _ _ (jd jdt_Ta_read 17 rfl) rfl)
      · refine J_mono (w_iconst_m1 C (jd jdt_Ta_read 16 rfl)) ?_
        exact J_some (fun hx => hR (-1) hx _ _ (jd jdt_Ta_read 17 rfl) rfl)
    · refine J_mono (w_iconst_m1 C (jd jdt_Ta_read 16 rfl)) ?_
      exact J_some (fun hx => hR (-1) hx _ _ (jd jdt_Ta_read 17 rfl) rfl)
end
theorem C_Ta_read (l : Launch) (G : JG) (F : jF G = false) (a0 : Nat) (a1 : Int32) (hp0 : jkd a0 10) (M : SM) {q : Int32} (hf : f_Ta_read a0 a1 M = some q) : jMet l jy_Ta_read jb_Ta_read 2 (some FieldType.int) 1 0 0 G [.ref a0, .int a1] jN0 (jce G M) (some (.int q)) jN0 (jce G M) :=
  j_met jo_Ta_read (by decide) (Nat.le_of_ble_eq_true rfl) (fun p e s m args below meth c C hr hm => K_Ta_read C F (Nat.le_refl _) a0 a1 hp0 M (fun t => t = q) (fun v hX pc ls hd hn => by cases hX; exact w_iret C hr hn hd) _ hf rfl)
def f_Re_isBlank (a0 : Int32) : Option Int32 := if a0 = 10 then (some 1) else (if a0 = 32 then (some 1) else (some 0))
section
variable {p : Program} {l : Launch} {e : Env} {R : Room} {s : State} {m : MethodId} {args : Array Value} {below : List Frame} {meth : Method} {c : Code} {G : JG} {D : Nat} {Q : State → Prop}
set_option maxHeartbeats 4000000 in
set_option maxRecDepth 20000 in
theorem K_Re_isBlank (C : jCx p R s m args meth c G jb_Re_isBlank 1 D "SluicePit$Reader") (F : jF G = false) (hD : 1 ≤ D) (a0 : Int32)  (M : SM) (X : Int32 → Prop) (hR : ∀ v, X v → ∀ (pc : Nat) (ls : List (Option Value)), decode jb_Re_isBlank pc = .ok (.ireturn, 1) → narrow FieldType.boolean (.int v) = .int v → Wk p l e R s m args below meth c G 1 Q 0 0 jN0 (jce G M) pc ls [.int v]) : J X (f_Re_isBlank a0) (Wk p l e R s m args below meth c G 1 Q 0 0 jN0 (jce G M) 0 [some (.int a0)] []) := by
  unfold f_Re_isBlank
  refine J_mono (w_iload_n C (jd jdt_Re_isBlank 0 rfl) rfl) ?_
  refine J_mono (w_bipush_10 C (jd jdt_Re_isBlank 1 rfl)) ?_
  refine J_br (w_icmp_eq C (jd jdt_Re_isBlank 2 rfl) rfl) (fun h1 => J_pos h1 ?_) (fun h1 => J_neg h1 ?_)
  · refine J_mono (w_iconst_1 C (jd jdt_Re_isBlank 6 rfl)) ?_
    refine J_mono (w_goto C (jd jdt_Re_isBlank 7 rfl) rfl) ?_
    exact J_some (fun hx => hR 1 hx _ _ (jd jdt_Re_isBlank 9 rfl) rfl)
  · refine J_mono (w_iload_n C (jd jdt_Re_isBlank 3 rfl) rfl) ?_
    refine J_mono (w_bipush_32 C (jd jdt_Re_isBlank 4 rfl)) ?_
    refine J_br (w_icmp_ne C (jd jdt_Re_isBlank 5 rfl) rfl) (fun h2 => J_pos h2 ?_) (fun h2 => J_neg h2 ?_)
    · refine J_mono (w_iconst_1 C (jd jdt_Re_isBlank 6 rfl)) ?_
      refine J_mono (w_goto C (jd jdt_Re_isBlank 7 rfl) rfl) ?_
      exact J_some (fun hx => hR 1 hx _ _ (jd jdt_Re_isBlank 9 rfl) rfl)
    · refine J_mono (w_iconst_0 C (jd jdt_Re_isBlank 8 rfl)) ?_
      exact J_some (fun hx => hR 0 hx _ _ (jd jdt_Re_isBlank 9 rfl) rfl)
end
theorem C_Re_isBlank (l : Launch) (G : JG) (F : jF G = false) (a0 : Int32)  (M : SM) {q : Int32} (hf : f_Re_isBlank a0 = some q) : jMet l jy_Re_isBlank jb_Re_isBlank 1 (some FieldType.boolean) 1 0 0 G [.int a0] jN0 (jce G M) (some (.int q)) jN0 (jce G M) :=
  j_met jo_Re_isBlank (by decide) (Nat.le_of_ble_eq_true rfl) (fun p e s m args below meth c C hr hm => K_Re_isBlank C F (Nat.le_refl _) a0  M (fun t => t = q) (fun v hX pc ls hd hn => by cases hX; exact w_iret C hr hn hd) _ hf rfl)
def f_Re_isDigit (a0 : Int32) : Option Int32 := if a0 < 48 then (some 0) else (if 57 < a0 then (some 0) else (some 1))
section
variable {p : Program} {l : Launch} {e : Env} {R : Room} {s : State} {m : MethodId} {args : Array Value} {below : List Frame} {meth : Method} {c : Code} {G : JG} {D : Nat} {Q : State → Prop}
set_option maxHeartbeats 4000000 in
set_option maxRecDepth 20000 in
theorem K_Re_isDigit (C : jCx p R s m args meth c G jb_Re_isDigit 1 D "SluicePit$Reader") (F : jF G = false) (hD : 1 ≤ D) (a0 : Int32)  (M : SM) (X : Int32 → Prop) (hR : ∀ v, X v → ∀ (pc : Nat) (ls : List (Option Value)), decode jb_Re_isDigit pc = .ok (.ireturn, 1) → narrow FieldType.boolean (.int v) = .int v → Wk p l e R s m args below meth c G 1 Q 0 0 jN0 (jce G M) pc ls [.int v]) : J X (f_Re_isDigit a0) (Wk p l e R s m args below meth c G 1 Q 0 0 jN0 (jce G M) 0 [some (.int a0)] []) := by
  unfold f_Re_isDigit
  refine J_mono (w_iload_n C (jd jdt_Re_isDigit 0 rfl) rfl) ?_
  refine J_mono (w_bipush_48 C (jd jdt_Re_isDigit 1 rfl)) ?_
  refine J_br (w_icmp_lt C (jd jdt_Re_isDigit 2 rfl) rfl) (fun h1 => J_pos h1 ?_) (fun h1 => J_neg h1 ?_)
  · refine J_mono (w_iconst_0 C (jd jdt_Re_isDigit 8 rfl)) ?_
    exact J_some (fun hx => hR 0 hx _ _ (jd jdt_Re_isDigit 9 rfl) rfl)
  · refine J_mono (w_iload_n C (jd jdt_Re_isDigit 3 rfl) rfl) ?_
    refine J_mono (w_bipush_57 C (jd jdt_Re_isDigit 4 rfl)) ?_
    refine J_br (w_icmp_gt C (jd jdt_Re_isDigit 5 rfl) rfl) (fun h2 => J_pos h2 ?_) (fun h2 => J_neg h2 ?_)
    · refine J_mono (w_iconst_0 C (jd jdt_Re_isDigit 8 rfl)) ?_
      exact J_some (fun hx => hR 0 hx _ _ (jd jdt_Re_isDigit 9 rfl) rfl)
    · refine J_mono (w_iconst_1 C (jd jdt_Re_isDigit 6 rfl)) ?_
      refine J_mono (w_goto C (jd jdt_Re_isDigit 7 rfl) rfl) ?_
      exact J_some (fun hx => hR 1 hx _ _ (jd jdt_Re_isDigit 9 rfl) rfl)
end
theorem C_Re_isDigit (l : Launch) (G : JG) (F : jF G = false) (a0 : Int32)  (M : SM) {q : Int32} (hf : f_Re_isDigit a0 = some q) : jMet l jy_Re_isDigit jb_Re_isDigit 1 (some FieldType.boolean) 1 0 0 G [.int a0] jN0 (jce G M) (some (.int q)) jN0 (jce G M) :=
  j_met jo_Re_isDigit (by decide) (Nat.le_of_ble_eq_true rfl) (fun p e s m args below meth c C hr hm => K_Re_isDigit C F (Nat.le_refl _) a0  M (fun t => t = q) (fun v hX pc ls hd hn => by cases hX; exact w_iret C hr hn hd) _ hf rfl)
def f_Re_isLetter (a0 : Int32) : Option Int32 := if a0 < 97 then (some 0) else (if 122 < a0 then (some 0) else (some 1))
section
variable {p : Program} {l : Launch} {e : Env} {R : Room} {s : State} {m : MethodId} {args : Array Value} {below : List Frame} {meth : Method} {c : Code} {G : JG} {D : Nat} {Q : State → Prop}
set_option maxHeartbeats 4000000 in
set_option maxRecDepth 20000 in
theorem K_Re_isLetter (C : jCx p R s m args meth c G jb_Re_isLetter 1 D "SluicePit$Reader") (F : jF G = false) (hD : 1 ≤ D) (a0 : Int32)  (M : SM) (X : Int32 → Prop) (hR : ∀ v, X v → ∀ (pc : Nat) (ls : List (Option Value)), decode jb_Re_isLetter pc = .ok (.ireturn, 1) → narrow FieldType.boolean (.int v) = .int v → Wk p l e R s m args below meth c G 1 Q 0 0 jN0 (jce G M) pc ls [.int v]) : J X (f_Re_isLetter a0) (Wk p l e R s m args below meth c G 1 Q 0 0 jN0 (jce G M) 0 [some (.int a0)] []) := by
  unfold f_Re_isLetter
  refine J_mono (w_iload_n C (jd jdt_Re_isLetter 0 rfl) rfl) ?_
  refine J_mono (w_bipush_97 C (jd jdt_Re_isLetter 1 rfl)) ?_
  refine J_br (w_icmp_lt C (jd jdt_Re_isLetter 2 rfl) rfl) (fun h1 => J_pos h1 ?_) (fun h1 => J_neg h1 ?_)
  · refine J_mono (w_iconst_0 C (jd jdt_Re_isLetter 8 rfl)) ?_
    exact J_some (fun hx => hR 0 hx _ _ (jd jdt_Re_isLetter 9 rfl) rfl)
  · refine J_mono (w_iload_n C (jd jdt_Re_isLetter 3 rfl) rfl) ?_
    refine J_mono (w_bipush_122 C (jd jdt_Re_isLetter 4 rfl)) ?_
    refine J_br (w_icmp_gt C (jd jdt_Re_isLetter 5 rfl) rfl) (fun h2 => J_pos h2 ?_) (fun h2 => J_neg h2 ?_)
    · refine J_mono (w_iconst_0 C (jd jdt_Re_isLetter 8 rfl)) ?_
      exact J_some (fun hx => hR 0 hx _ _ (jd jdt_Re_isLetter 9 rfl) rfl)
    · refine J_mono (w_iconst_1 C (jd jdt_Re_isLetter 6 rfl)) ?_
      refine J_mono (w_goto C (jd jdt_Re_isLetter 7 rfl) rfl) ?_
      exact J_some (fun hx => hR 1 hx _ _ (jd jdt_Re_isLetter 9 rfl) rfl)
end
theorem C_Re_isLetter (l : Launch) (G : JG) (F : jF G = false) (a0 : Int32)  (M : SM) {q : Int32} (hf : f_Re_isLetter a0 = some q) : jMet l jy_Re_isLetter jb_Re_isLetter 1 (some FieldType.boolean) 1 0 0 G [.int a0] jN0 (jce G M) (some (.int q)) jN0 (jce G M) :=
  j_met jo_Re_isLetter (by decide) (Nat.le_of_ble_eq_true rfl) (fun p e s m args below meth c C hr hm => K_Re_isLetter C F (Nat.le_refl _) a0  M (fun t => t = q) (fun v hX pc ls hd hn => by cases hX; exact w_iret C hr hn hd) _ hf rfl)
def lp_Re_step_5 (y0 : Nat) (M : SM) : Nat → Int32 → Option (Int32)
  | 0, _ => none
  | n + 1, x1 => if x1 < (M.1 (jpf y0 0) 1) then ((f_Ta_read (jpf y0 0) x1 M).bind fun q2 => (f_Re_isBlank q2).bind fun q3 => if q3 = 0 then (some x1) else (lp_Re_step_5 y0 M n (x1 + 1))) else (some x1)
def lp_Re_step_156 (y0 : Nat) (y2 : Int32) (y3 : Int32) (M : SM) : Nat → Int32 → Option (Int32)
  | 0, _ => none
  | n + 1, x1 => if x1 < (M.1 (jpf y0 0) 1) then (if y3 = 0 then (if y2 = 0 then (some x1) else ((f_Ta_read (jpf y0 0) x1 M).bind fun q25 => (f_Re_isDigit q25).bind fun q26 => if q26 = 0 then (some x1) else (lp_Re_step_156 y0 y2 y3 M n (x1 + 1)))) else ((f_Ta_read (jpf y0 0) x1 M).bind fun q28 => (f_Re_isLetter q28).bind fun q29 => if q29 = 0 then (some x1) else (lp_Re_step_156 y0 y2 y3 M n (x1 + 1)))) else (some x1)
def lp_Re_step_220 (y0 : Nat) (y3 : Int32) : Nat → Int32 → SM → Option (SM)
  | 0, _, _ => none
  | n + 1, x4, M => if x4 < 12 then ((if y3 = 0 then (some 0) else (if ((M.1 y0 3) + x4) < (M.1 y0 4) then ((f_Ta_read (jpf y0 0) ((M.1 y0 3) + x4) M).bind fun q36 => some q36) else (some 0)) : Option (Int32)).bind fun q33 => (f_Sp_put (jpf y0 2) x4 q33 M).bind fun q37 => lp_Re_step_220 y0 y3 n (x4 + 1) q37) else (some M)
def f_Re_step (a0 : Nat) (M : SM) : Option SM := (lp_Re_step_5 a0 M jfuel (M.1 a0 4)).bind fun q5 => (f_Ta_read (jpf a0 0) q5 (sI M a0 3 q5)).bind fun q6 => (f_Re_isDigit q6).bind fun q7 => (f_Ta_read (jpf a0 0) q5 (sI M a0 3 q5)).bind fun q8 => (f_Re_isLetter q8).bind fun q9 => (if q5 < ((sI M a0 3 q5).1 (jpf a0 0) 1) then (if q9 = 0 then (if q7 = 0 then (some (q5 + 1, sI (sI M a0 3 q5) a0 1 3)) else ((f_Ta_read (jpf a0 0) (q5 - 1) (sI M a0 3 q5)).bind fun q14 => (f_Re_isLetter q14).bind fun q15 => (if q15 = 0 then (some 2) else (some 4) : Option (Int32)).bind fun q16 => some (q5, sI (sI M a0 3 q5) a0 1 q16))) else ((f_Ta_read (jpf a0 0) (q5 - 1) (sI M a0 3 q5)).bind fun q18 => (f_Re_isDigit q18).bind fun q19 => (if q19 = 0 then (some 1) else (some 4) : Option (Int32)).bind fun q20 => some (q5, sI (sI M a0 3 q5) a0 1 q20))) else (some (q5, sI (sI M a0 3 q5) a0 1 0)) : Option (Int32 × SM)).bind fun q10 => (lp_Re_step_156 a0 q7 q9 q10.2 jfuel q10.1).bind fun q31 => (lp_Re_step_220 a0 q9 jfuel 0 (sI q10.2 a0 4 q31)).bind fun q38 => some q38
section
variable {p : Program} {l : Launch} {e : Env} {R : Room} {s : State} {m : MethodId} {args : Array Value} {below : List Frame} {meth : Method} {c : Code} {G : JG} {D : Nat} {Q : State → Prop}
set_option maxHeartbeats 4000000 in
set_option maxRecDepth 20000 in
theorem K_Re_step (C : jCx p R s m args meth c G jb_Re_step 5 D "SluicePit$Reader") (F : jF G = false) (hD : 2 ≤ D) (a0 : Nat) (hp0 : jkd a0 7) (M : SM) (X : SM → Prop) (hR : ∀ M', X M' → ∀ (pc : Nat) (ls : List (Option Value)), decode jb_Re_step pc = .ok (.return_, 1) → Wk p l e R s m args below meth c G 5 Q 0 0 jN0 (jce G M') pc ls []) : J X (f_Re_step a0 M) (Wk p l e R s m args below meth c G 5 Q 0 0 jN0 (jce G M) 0 [some (.ref a0), none, none, none, none] []) := by
  unfold f_Re_step
  refine J_mono (w_aload_n C (jd jdt_Re_step 0 rfl) rfl) ?_
  refine J_mono (jg_Re_26 C hp0 (jd jdt_Re_step 1 rfl)) ?_
  refine J_mono (w_istore_n (ls' := [some (.ref a0), some (.int (M.1 a0 4)), none, none, none]) C (jd jdt_Re_step 2 rfl) (by decide) rfl rfl) ?_
  have L5 : ∀ (y0 : Nat) (hy0 : jkd y0 7) (M : SM) (n : Nat) (x1 : Int32), J (fun (q5 : Int32) => Wk p l e R s m args below meth c G 5 Q 0 0 jN0 (jce G M) 36 [some (.ref y0), some (.int q5), none, none, none] []) (lp_Re_step_5 y0 M n x1) (Wk p l e R s m args below meth c G 5 Q 0 0 jN0 (jce G M) 5 [some (.ref y0), some (.int x1), none, none, none] []) := by
    intro y0 hy0 M n
    induction n with
    | zero => intro x1; exact J_none
    | succ n ih =>
      intro x1
      unfold lp_Re_step_5
      refine J_mono (w_iload_n C (jd jdt_Re_step 3 rfl) rfl) ?_
      refine J_mono (w_aload_n C (jd jdt_Re_step 4 rfl) rfl) ?_
      refine J_mono (jg_Re_9 C hy0 (jd jdt_Re_step 5 rfl)) ?_
      refine J_mono (jg_Re_38 C (jkf_7_0 hy0) (jd jdt_Re_step 6 rfl)) ?_
      refine J_br (w_icmp_ge C (jd jdt_Re_step 7 rfl) rfl) (fun h1 => J_pos h1 ?_) (fun h1 => J_neg h1 ?_)
      · refine J_mono (w_aload_n C (jd jdt_Re_step 8 rfl) rfl) ?_
        refine J_mono (jg_Re_9 C hy0 (jd jdt_Re_step 9 rfl)) ?_
        refine J_mono (w_iload_n C (jd jdt_Re_step 10 rfl) rfl) ?_
        refine J_bind (fun q2 hq2 => ?_)
        refine J_mono (jc_Re_43 C (jkf_7_0 hy0) (C_Ta_read l G F (jpf y0 0) x1 (jkf_7_0 hy0) M hq2) rfl (Nat.le_trans (Nat.le_of_ble_eq_true rfl : 1 + 1 ≤ 2) hD) (jd jdt_Re_step 11 rfl)) ?_
        refine J_bind (fun q3 hq3 => ?_)
        refine J_mono (jc_Re_47 C (C_Re_isBlank l G F q2 M hq3) rfl (Nat.le_trans (Nat.le_of_ble_eq_true rfl : 1 + 1 ≤ 2) hD) (jd jdt_Re_step 12 rfl)) ?_
        refine J_br (w_if_eq (y := 0) C (jd jdt_Re_step 13 rfl) rfl) (fun h4 => J_pos h4 ?_) (fun h4 => J_neg h4 ?_)
        · exact J_some (fun hx => Wk_sb hx ⟨rfl, rfl, trivial⟩)
        · refine J_mono (w_iinc (v := x1 + 1) (ls' := [some (.ref y0), some (.int (x1 + 1)), none, none, none]) C (jd jdt_Re_step 14 rfl) rfl rfl (by decide) rfl rfl) ?_
          refine J_mono (w_goto C (jd jdt_Re_step 15 rfl) rfl) ?_
          exact J_sub (ih (x1 + 1)) ⟨rfl, rfl, trivial⟩
      · exact J_some (fun hx => Wk_sb hx ⟨rfl, rfl, trivial⟩)
  refine J_seq (fun (q5 : Int32) => Wk p l e R s m args below meth c G 5 Q 0 0 jN0 (jce G M) 36 [some (.ref a0), some (.int q5), none, none, none] []) (J_sub (L5 a0 hp0 M jfuel (M.1 a0 4)) ⟨rfl, rfl, trivial⟩) (fun q5 hq5 => ?_)
  refine J_mono (w_aload_n C (jd jdt_Re_step 16 rfl) rfl) ?_
  refine J_mono (w_iload_n C (jd jdt_Re_step 17 rfl) rfl) ?_
  refine J_mono (jp_Re_23 C F hp0 (jd jdt_Re_step 18 rfl)) ?_
  refine J_mono (w_aload_n C (jd jdt_Re_step 19 rfl) rfl) ?_
  refine J_mono (jg_Re_9 C hp0 (jd jdt_Re_step 20 rfl)) ?_
  refine J_mono (w_iload_n C (jd jdt_Re_step 21 rfl) rfl) ?_
  refine J_bind (fun q6 hq6 => ?_)
  refine J_mono (jc_Re_43 C (jkf_7_0 hp0) (C_Ta_read l G F (jpf a0 0) q5 (jkf_7_0 hp0) (sI M a0 3 q5) hq6) rfl (Nat.le_trans (Nat.le_of_ble_eq_true rfl : 1 + 1 ≤ 2) hD) (jd jdt_Re_step 22 rfl)) ?_
  refine J_bind (fun q7 hq7 => ?_)
  refine J_mono (jc_Re_51 C (C_Re_isDigit l G F q6 (sI M a0 3 q5) hq7) rfl (Nat.le_trans (Nat.le_of_ble_eq_true rfl : 1 + 1 ≤ 2) hD) (jd jdt_Re_step 23 rfl)) ?_
  refine J_mono (w_istore_n (ls' := [some (.ref a0), some (.int q5), some (.int q7), none, none]) C (jd jdt_Re_step 24 rfl) (by decide) rfl rfl) ?_
  refine J_mono (w_aload_n C (jd jdt_Re_step 25 rfl) rfl) ?_
  refine J_mono (jg_Re_9 C hp0 (jd jdt_Re_step 26 rfl)) ?_
  refine J_mono (w_iload_n C (jd jdt_Re_step 27 rfl) rfl) ?_
  refine J_bind (fun q8 hq8 => ?_)
  refine J_mono (jc_Re_43 C (jkf_7_0 hp0) (C_Ta_read l G F (jpf a0 0) q5 (jkf_7_0 hp0) (sI M a0 3 q5) hq8) rfl (Nat.le_trans (Nat.le_of_ble_eq_true rfl : 1 + 1 ≤ 2) hD) (jd jdt_Re_step 28 rfl)) ?_
  refine J_bind (fun q9 hq9 => ?_)
  refine J_mono (jc_Re_54 C (C_Re_isLetter l G F q8 (sI M a0 3 q5) hq9) rfl (Nat.le_trans (Nat.le_of_ble_eq_true rfl : 1 + 1 ≤ 2) hD) (jd jdt_Re_step 29 rfl)) ?_
  refine J_mono (w_istore_n (ls' := [some (.ref a0), some (.int q5), some (.int q7), some (.int q9), none]) C (jd jdt_Re_step 30 rfl) (by decide) rfl rfl) ?_
  refine J_mono (w_iload_n C (jd jdt_Re_step 31 rfl) rfl) ?_
  refine J_mono (w_aload_n C (jd jdt_Re_step 32 rfl) rfl) ?_
  refine J_mono (jg_Re_9 C hp0 (jd jdt_Re_step 33 rfl)) ?_
  refine J_mono (jg_Re_38 C (jkf_7_0 hp0) (jd jdt_Re_step 34 rfl)) ?_
  refine J_seq (fun (q10 : Int32 × SM) => Wk p l e R s m args below meth c G 5 Q 0 0 jN0 (jce G q10.2) 156 [some (.ref a0), some (.int q10.1), some (.int q7), some (.int q9), none] []) ?_ (fun q10 hq10 => ?_)
  · refine J_br (w_icmp_lt C (jd jdt_Re_step 35 rfl) rfl) (fun h11 => J_pos h11 ?_) (fun h11 => J_neg h11 ?_)
    · refine J_mono (w_iload_n C (jd jdt_Re_step 40 rfl) rfl) ?_
      refine J_br (w_if_eq (y := 0) C (jd jdt_Re_step 41 rfl) rfl) (fun h12 => J_pos h12 ?_) (fun h12 => J_neg h12 ?_)
      · refine J_mono (w_iload_n C (jd jdt_Re_step 56 rfl) rfl) ?_
        refine J_br (w_if_eq (y := 0) C (jd jdt_Re_step 57 rfl) rfl) (fun h13 => J_pos h13 ?_) (fun h13 => J_neg h13 ?_)
        · refine J_mono (w_aload_n C (jd jdt_Re_step 72 rfl) rfl) ?_
          refine J_mono (w_iconst_3 C (jd jdt_Re_step 73 rfl)) ?_
          refine J_mono (jp_Re_19 C F hp0 (jd jdt_Re_step 74 rfl)) ?_
          refine J_mono (w_iinc (v := q5 + 1) (ls' := [some (.ref a0), some (.int (q5 + 1)), some (.int q7), some (.int q9), none]) C (jd jdt_Re_step 75 rfl) rfl rfl (by decide) rfl rfl) ?_
          exact J_some (fun hx => Wk_sb hx ⟨rfl, rfl, rfl, rfl, trivial⟩)
        · refine J_mono (w_aload_n C (jd jdt_Re_step 58 rfl) rfl) ?_
          refine J_mono (w_aload_n C (jd jdt_Re_step 59 rfl) rfl) ?_
          refine J_mono (jg_Re_9 C hp0 (jd jdt_Re_step 60 rfl)) ?_
          refine J_mono (w_iload_n C (jd jdt_Re_step 61 rfl) rfl) ?_
          refine J_mono (w_iconst_1 C (jd jdt_Re_step 62 rfl)) ?_
          refine J_mono (w_isub C (jd jdt_Re_step 63 rfl)) ?_
          refine J_bind (fun q14 hq14 => ?_)
          refine J_mono (jc_Re_43 C (jkf_7_0 hp0) (C_Ta_read l G F (jpf a0 0) (q5 - 1) (jkf_7_0 hp0) (sI M a0 3 q5) hq14) rfl (Nat.le_trans (Nat.le_of_ble_eq_true rfl : 1 + 1 ≤ 2) hD) (jd jdt_Re_step 64 rfl)) ?_
          refine J_bind (fun q15 hq15 => ?_)
          refine J_mono (jc_Re_54 C (C_Re_isLetter l G F q14 (sI M a0 3 q5) hq15) rfl (Nat.le_trans (Nat.le_of_ble_eq_true rfl : 1 + 1 ≤ 2) hD) (jd jdt_Re_step 65 rfl)) ?_
          refine J_seq (fun (q16 : Int32) => Wk p l e R s m args below meth c G 5 Q 0 0 jN0 (jce G (sI M a0 3 q5)) 142 [some (.ref a0), some (.int q5), some (.int q7), some (.int q9), none] [.int q16, .ref a0]) ?_ (fun q16 hq16 => ?_)
          · refine J_br (w_if_eq (y := 0) C (jd jdt_Re_step 66 rfl) rfl) (fun h17 => J_pos h17 ?_) (fun h17 => J_neg h17 ?_)
            · refine J_mono (w_iconst_2 C (jd jdt_Re_step 69 rfl)) ?_
              exact J_some (fun hx => Wk_sb hx ⟨rfl, rfl, rfl, rfl, trivial⟩)
            · refine J_mono (w_iconst_4 C (jd jdt_Re_step 67 rfl)) ?_
              refine J_mono (w_goto C (jd jdt_Re_step 68 rfl) rfl) ?_
              exact J_some (fun hx => Wk_sb hx ⟨rfl, rfl, rfl, rfl, trivial⟩)
          · refine J_mono (jp_Re_19 C F hp0 (jd jdt_Re_step 70 rfl)) ?_
            refine J_mono (w_goto C (jd jdt_Re_step 71 rfl) rfl) ?_
            exact J_some (fun hx => Wk_sb hx ⟨rfl, rfl, rfl, rfl, trivial⟩)
      · refine J_mono (w_aload_n C (jd jdt_Re_step 42 rfl) rfl) ?_
        refine J_mono (w_aload_n C (jd jdt_Re_step 43 rfl) rfl) ?_
        refine J_mono (jg_Re_9 C hp0 (jd jdt_Re_step 44 rfl)) ?_
        refine J_mono (w_iload_n C (jd jdt_Re_step 45 rfl) rfl) ?_
        refine J_mono (w_iconst_1 C (jd jdt_Re_step 46 rfl)) ?_
        refine J_mono (w_isub C (jd jdt_Re_step 47 rfl)) ?_
        refine J_bind (fun q18 hq18 => ?_)
        refine J_mono (jc_Re_43 C (jkf_7_0 hp0) (C_Ta_read l G F (jpf a0 0) (q5 - 1) (jkf_7_0 hp0) (sI M a0 3 q5) hq18) rfl (Nat.le_trans (Nat.le_of_ble_eq_true rfl : 1 + 1 ≤ 2) hD) (jd jdt_Re_step 48 rfl)) ?_
        refine J_bind (fun q19 hq19 => ?_)
        refine J_mono (jc_Re_51 C (C_Re_isDigit l G F q18 (sI M a0 3 q5) hq19) rfl (Nat.le_trans (Nat.le_of_ble_eq_true rfl : 1 + 1 ≤ 2) hD) (jd jdt_Re_step 49 rfl)) ?_
        refine J_seq (fun (q20 : Int32) => Wk p l e R s m args below meth c G 5 Q 0 0 jN0 (jce G (sI M a0 3 q5)) 110 [some (.ref a0), some (.int q5), some (.int q7), some (.int q9), none] [.int q20, .ref a0]) ?_ (fun q20 hq20 => ?_)
        · refine J_br (w_if_eq (y := 0) C (jd jdt_Re_step 50 rfl) rfl) (fun h21 => J_pos h21 ?_) (fun h21 => J_neg h21 ?_)
          · refine J_mono (w_iconst_1 C (jd jdt_Re_step 53 rfl)) ?_
            exact J_some (fun hx => Wk_sb hx ⟨rfl, rfl, rfl, rfl, trivial⟩)
          · refine J_mono (w_iconst_4 C (jd jdt_Re_step 51 rfl)) ?_
            refine J_mono (w_goto C (jd jdt_Re_step 52 rfl) rfl) ?_
            exact J_some (fun hx => Wk_sb hx ⟨rfl, rfl, rfl, rfl, trivial⟩)
        · refine J_mono (jp_Re_19 C F hp0 (jd jdt_Re_step 54 rfl)) ?_
          refine J_mono (w_goto C (jd jdt_Re_step 55 rfl) rfl) ?_
          exact J_some (fun hx => Wk_sb hx ⟨rfl, rfl, rfl, rfl, trivial⟩)
    · refine J_mono (w_aload_n C (jd jdt_Re_step 36 rfl) rfl) ?_
      refine J_mono (w_iconst_0 C (jd jdt_Re_step 37 rfl)) ?_
      refine J_mono (jp_Re_19 C F hp0 (jd jdt_Re_step 38 rfl)) ?_
      refine J_mono (w_goto C (jd jdt_Re_step 39 rfl) rfl) ?_
      exact J_some (fun hx => Wk_sb hx ⟨rfl, rfl, rfl, rfl, trivial⟩)
  · have L156 : ∀ (y0 : Nat) (y2 : Int32) (y3 : Int32) (hy0 : jkd y0 7) (M : SM) (n : Nat) (x1 : Int32), J (fun (q31 : Int32) => Wk p l e R s m args below meth c G 5 Q 0 0 jN0 (jce G M) 212 [some (.ref y0), some (.int q31), none, some (.int y3), none] []) (lp_Re_step_156 y0 y2 y3 M n x1) (Wk p l e R s m args below meth c G 5 Q 0 0 jN0 (jce G M) 156 [some (.ref y0), some (.int x1), some (.int y2), some (.int y3), none] []) := by
      intro y0 y2 y3 hy0 M n
      induction n with
      | zero => intro x1; exact J_none
      | succ n ih =>
        intro x1
        unfold lp_Re_step_156
        refine J_mono (w_iload_n C (jd jdt_Re_step 76 rfl) rfl) ?_
        refine J_mono (w_aload_n C (jd jdt_Re_step 77 rfl) rfl) ?_
        refine J_mono (jg_Re_9 C hy0 (jd jdt_Re_step 78 rfl)) ?_
        refine J_mono (jg_Re_38 C (jkf_7_0 hy0) (jd jdt_Re_step 79 rfl)) ?_
        refine J_br (w_icmp_ge C (jd jdt_Re_step 80 rfl) rfl) (fun h22 => J_pos h22 ?_) (fun h22 => J_neg h22 ?_)
        · refine J_mono (w_iload_n C (jd jdt_Re_step 81 rfl) rfl) ?_
          refine J_br (w_if_eq (y := 0) C (jd jdt_Re_step 82 rfl) rfl) (fun h23 => J_pos h23 ?_) (fun h23 => J_neg h23 ?_)
          · refine J_mono (w_iload_n C (jd jdt_Re_step 90 rfl) rfl) ?_
            refine J_br (w_if_eq (y := 0) C (jd jdt_Re_step 91 rfl) rfl) (fun h24 => J_pos h24 ?_) (fun h24 => J_neg h24 ?_)
            · exact J_some (fun hx => Wk_sb hx ⟨rfl, rfl, rfl, trivial⟩)
            · refine J_mono (w_aload_n C (jd jdt_Re_step 92 rfl) rfl) ?_
              refine J_mono (jg_Re_9 C hy0 (jd jdt_Re_step 93 rfl)) ?_
              refine J_mono (w_iload_n C (jd jdt_Re_step 94 rfl) rfl) ?_
              refine J_bind (fun q25 hq25 => ?_)
              refine J_mono (jc_Re_43 C (jkf_7_0 hy0) (C_Ta_read l G F (jpf y0 0) x1 (jkf_7_0 hy0) M hq25) rfl (Nat.le_trans (Nat.le_of_ble_eq_true rfl : 1 + 1 ≤ 2) hD) (jd jdt_Re_step 95 rfl)) ?_
              refine J_bind (fun q26 hq26 => ?_)
              refine J_mono (jc_Re_51 C (C_Re_isDigit l G F q25 M hq26) rfl (Nat.le_trans (Nat.le_of_ble_eq_true rfl : 1 + 1 ≤ 2) hD) (jd jdt_Re_step 96 rfl)) ?_
              refine J_br (w_if_eq (y := 0) C (jd jdt_Re_step 97 rfl) rfl) (fun h27 => J_pos h27 ?_) (fun h27 => J_neg h27 ?_)
              · exact J_some (fun hx => Wk_sb hx ⟨rfl, rfl, rfl, trivial⟩)
              · refine J_mono (w_iinc (v := x1 + 1) (ls' := [some (.ref y0), some (.int (x1 + 1)), some (.int y2), some (.int y3), none]) C (jd jdt_Re_step 98 rfl) rfl rfl (by decide) rfl rfl) ?_
                refine J_mono (w_goto C (jd jdt_Re_step 99 rfl) rfl) ?_
                exact J_sub (ih (x1 + 1)) ⟨rfl, rfl, rfl, rfl, trivial⟩
          · refine J_mono (w_aload_n C (jd jdt_Re_step 83 rfl) rfl) ?_
            refine J_mono (jg_Re_9 C hy0 (jd jdt_Re_step 84 rfl)) ?_
            refine J_mono (w_iload_n C (jd jdt_Re_step 85 rfl) rfl) ?_
            refine J_bind (fun q28 hq28 => ?_)
            refine J_mono (jc_Re_43 C (jkf_7_0 hy0) (C_Ta_read l G F (jpf y0 0) x1 (jkf_7_0 hy0) M hq28) rfl (Nat.le_trans (Nat.le_of_ble_eq_true rfl : 1 + 1 ≤ 2) hD) (jd jdt_Re_step 86 rfl)) ?_
            refine J_bind (fun q29 hq29 => ?_)
            refine J_mono (jc_Re_54 C (C_Re_isLetter l G F q28 M hq29) rfl (Nat.le_trans (Nat.le_of_ble_eq_true rfl : 1 + 1 ≤ 2) hD) (jd jdt_Re_step 87 rfl)) ?_
            refine J_br (w_if_eq (y := 0) C (jd jdt_Re_step 88 rfl) rfl) (fun h30 => J_pos h30 ?_) (fun h30 => J_neg h30 ?_)
            · exact J_some (fun hx => Wk_sb hx ⟨rfl, rfl, rfl, trivial⟩)
            · refine J_mono (w_goto C (jd jdt_Re_step 89 rfl) rfl) ?_
              refine J_mono (w_iinc (v := x1 + 1) (ls' := [some (.ref y0), some (.int (x1 + 1)), some (.int y2), some (.int y3), none]) C (jd jdt_Re_step 98 rfl) rfl rfl (by decide) rfl rfl) ?_
              refine J_mono (w_goto C (jd jdt_Re_step 99 rfl) rfl) ?_
              exact J_sub (ih (x1 + 1)) ⟨rfl, rfl, rfl, rfl, trivial⟩
        · exact J_some (fun hx => Wk_sb hx ⟨rfl, rfl, rfl, trivial⟩)
    refine J_seq (fun (q31 : Int32) => Wk p l e R s m args below meth c G 5 Q 0 0 jN0 (jce G q10.2) 212 [some (.ref a0), some (.int q31), none, some (.int q9), none] []) (J_sub (L156 a0 q7 q9 hp0 q10.2 jfuel q10.1) ⟨rfl, rfl, rfl, rfl, trivial⟩) (fun q31 hq31 => ?_)
    refine J_mono (w_aload_n C (jd jdt_Re_step 100 rfl) rfl) ?_
    refine J_mono (w_iload_n C (jd jdt_Re_step 101 rfl) rfl) ?_
    refine J_mono (jp_Re_26 C F hp0 (jd jdt_Re_step 102 rfl)) ?_
    refine J_mono (w_iconst_0 C (jd jdt_Re_step 103 rfl)) ?_
    refine J_mono (w_istore (ls' := [some (.ref a0), some (.int q31), none, some (.int q9), some (.int 0)]) C (jd jdt_Re_step 104 rfl) (by decide) rfl rfl) ?_
    have L220 : ∀ (y0 : Nat) (y3 : Int32) (hy0 : jkd y0 7) (n : Nat) (x4 : Int32) (M : SM), J (fun (q38 : SM) => Wk p l e R s m args below meth c G 5 Q 0 0 jN0 (jce G q38) 278 [none, none, none, none, none] []) (lp_Re_step_220 y0 y3 n x4 M) (Wk p l e R s m args below meth c G 5 Q 0 0 jN0 (jce G M) 220 [some (.ref y0), none, none, some (.int y3), some (.int x4)] []) := by
      intro y0 y3 hy0 n
      induction n with
      | zero => intro x4 M; exact J_none
      | succ n ih =>
        intro x4 M
        unfold lp_Re_step_220
        refine J_mono (w_iload C (jd jdt_Re_step 105 rfl) rfl) ?_
        refine J_mono (w_bipush_12 C (jd jdt_Re_step 106 rfl)) ?_
        refine J_br (w_icmp_ge C (jd jdt_Re_step 107 rfl) rfl) (fun h32 => J_pos h32 ?_) (fun h32 => J_neg h32 ?_)
        · refine J_mono (w_aload_n C (jd jdt_Re_step 108 rfl) rfl) ?_
          refine J_mono (jg_Re_15 C hy0 (jd jdt_Re_step 109 rfl)) ?_
          refine J_mono (w_iload C (jd jdt_Re_step 110 rfl) rfl) ?_
          refine J_mono (w_iload_n C (jd jdt_Re_step 111 rfl) rfl) ?_
          refine J_seq (fun (q33 : Int32) => Wk p l e R s m args below meth c G 5 Q 0 0 jN0 (jce G M) 269 [some (.ref y0), none, none, some (.int y3), some (.int x4)] [.int q33, .int x4, .ref (jpf y0 2)]) ?_ (fun q33 hq33 => ?_)
          · refine J_br (w_if_eq (y := 0) C (jd jdt_Re_step 112 rfl) rfl) (fun h34 => J_pos h34 ?_) (fun h34 => J_neg h34 ?_)
            · refine J_mono (w_iconst_0 C (jd jdt_Re_step 128 rfl)) ?_
              exact J_some (fun hx => Wk_sb hx ⟨rfl, rfl, rfl, trivial⟩)
            · refine J_mono (w_aload_n C (jd jdt_Re_step 113 rfl) rfl) ?_
              refine J_mono (jg_Re_23 C hy0 (jd jdt_Re_step 114 rfl)) ?_
              refine J_mono (w_iload C (jd jdt_Re_step 115 rfl) rfl) ?_
              refine J_mono (w_iadd C (jd jdt_Re_step 116 rfl)) ?_
              refine J_mono (w_aload_n C (jd jdt_Re_step 117 rfl) rfl) ?_
              refine J_mono (jg_Re_26 C hy0 (jd jdt_Re_step 118 rfl)) ?_
              refine J_br (w_icmp_ge C (jd jdt_Re_step 119 rfl) rfl) (fun h35 => J_pos h35 ?_) (fun h35 => J_neg h35 ?_)
              · refine J_mono (w_aload_n C (jd jdt_Re_step 120 rfl) rfl) ?_
                refine J_mono (jg_Re_9 C hy0 (jd jdt_Re_step 121 rfl)) ?_
                refine J_mono (w_aload_n C (jd jdt_Re_step 122 rfl) rfl) ?_
                refine J_mono (jg_Re_23 C hy0 (jd jdt_Re_step 123 rfl)) ?_
                refine J_mono (w_iload C (jd jdt_Re_step 124 rfl) rfl) ?_
                refine J_mono (w_iadd C (jd jdt_Re_step 125 rfl)) ?_
                refine J_bind (fun q36 hq36 => ?_)
                refine J_mono (jc_Re_43 C (jkf_7_0 hy0) (C_Ta_read l G F (jpf y0 0) ((M.1 y0 3) + x4) (jkf_7_0 hy0) M hq36) rfl (Nat.le_trans (Nat.le_of_ble_eq_true rfl : 1 + 1 ≤ 2) hD) (jd jdt_Re_step 126 rfl)) ?_
                refine J_mono (w_goto C (jd jdt_Re_step 127 rfl) rfl) ?_
                exact J_some (fun hx => Wk_sb hx ⟨rfl, rfl, rfl, trivial⟩)
              · refine J_mono (w_iconst_0 C (jd jdt_Re_step 128 rfl)) ?_
                exact J_some (fun hx => Wk_sb hx ⟨rfl, rfl, rfl, trivial⟩)
          · refine J_bind (fun q37 hq37 => ?_)
            refine J_mono (jc_Re_57 C (C_Sp_put l G F (jpf y0 2) x4 q33 (jkf_7_2 hy0) M hq37) rfl (Nat.le_trans (Nat.le_of_ble_eq_true rfl : 1 + 1 ≤ 2) hD) (jd jdt_Re_step 129 rfl)) ?_
            refine J_mono (w_iinc (v := x4 + 1) (ls' := [some (.ref y0), none, none, some (.int y3), some (.int (x4 + 1))]) C (jd jdt_Re_step 130 rfl) rfl rfl (by decide) rfl rfl) ?_
            refine J_mono (w_goto C (jd jdt_Re_step 131 rfl) rfl) ?_
            exact J_sub (ih (x4 + 1) q37) ⟨rfl, rfl, rfl, trivial⟩
        · exact J_some (fun hx => Wk_sb hx trivial)
    refine J_seq (fun (q38 : SM) => Wk p l e R s m args below meth c G 5 Q 0 0 jN0 (jce G q38) 278 [none, none, none, none, none] []) (J_sub (L220 a0 q9 hp0 jfuel 0 (sI q10.2 a0 4 q31)) ⟨rfl, rfl, rfl, trivial⟩) (fun q38 hq38 => ?_)
    exact J_some (fun hx => hR q38 hx _ _ (jd jdt_Re_step 132 rfl))
end
theorem C_Re_step (l : Launch) (G : JG) (F : jF G = false) (a0 : Nat) (hp0 : jkd a0 7) (M : SM) {q : SM} (hf : f_Re_step a0 M = some q) : jMet l jy_Re_step jb_Re_step 5 none 2 0 0 G [.ref a0] jN0 (jce G M) none jN0 (jce G q) :=
  j_met jo_Re_step (by decide) (Nat.le_of_ble_eq_true rfl) (fun p e s m args below meth c C hr hm => K_Re_step C F (Nat.le_refl _) a0 hp0 M (fun t => t = q) (fun M' hX pc ls hd => by cases hX; exact w_vret C hr hd) _ hf rfl)
def f_Re_begin (a0 : Nat) (M : SM) : Option SM := (f_Re_step a0 (sI (sI (sI M a0 4 0) a0 5 0) a0 6 (-1))).bind fun q1 => some q1
section
variable {p : Program} {l : Launch} {e : Env} {R : Room} {s : State} {m : MethodId} {args : Array Value} {below : List Frame} {meth : Method} {c : Code} {G : JG} {D : Nat} {Q : State → Prop}
set_option maxHeartbeats 4000000 in
set_option maxRecDepth 20000 in
theorem K_Re_begin (C : jCx p R s m args meth c G jb_Re_begin 1 D "SluicePit$Reader") (F : jF G = false) (hD : 3 ≤ D) (a0 : Nat) (hp0 : jkd a0 7) (M : SM) (X : SM → Prop) (hR : ∀ M', X M' → ∀ (pc : Nat) (ls : List (Option Value)), decode jb_Re_begin pc = .ok (.return_, 1) → Wk p l e R s m args below meth c G 1 Q 0 0 jN0 (jce G M') pc ls []) : J X (f_Re_begin a0 M) (Wk p l e R s m args below meth c G 1 Q 0 0 jN0 (jce G M) 0 [some (.ref a0)] []) := by
  unfold f_Re_begin
  refine J_mono (w_aload_n C (jd jdt_Re_begin 0 rfl) rfl) ?_
  refine J_mono (w_iconst_0 C (jd jdt_Re_begin 1 rfl)) ?_
  refine J_mono (jp_Re_26 C F hp0 (jd jdt_Re_begin 2 rfl)) ?_
  refine J_mono (w_aload_n C (jd jdt_Re_begin 3 rfl) rfl) ?_
  refine J_mono (w_iconst_0 C (jd jdt_Re_begin 4 rfl)) ?_
  refine J_mono (jp_Re_29 C F hp0 (jd jdt_Re_begin 5 rfl)) ?_
  refine J_mono (w_aload_n C (jd jdt_Re_begin 6 rfl) rfl) ?_
  refine J_mono (w_iconst_m1 C (jd jdt_Re_begin 7 rfl)) ?_
  refine J_mono (jp_Re_32 C F hp0 (jd jdt_Re_begin 8 rfl)) ?_
  refine J_mono (w_aload_n C (jd jdt_Re_begin 9 rfl) rfl) ?_
  refine J_bind (fun q1 hq1 => ?_)
  refine J_mono (jc_Re_35 C hp0 (C_Re_step l G F a0 hp0 (sI (sI (sI M a0 4 0) a0 5 0) a0 6 (-1)) hq1) rfl (Nat.le_trans (Nat.le_of_ble_eq_true rfl : 2 + 1 ≤ 3) hD) (jd jdt_Re_begin 10 rfl)) ?_
  exact J_some (fun hx => hR q1 hx _ _ (jd jdt_Re_begin 11 rfl))
end
theorem C_Re_begin (l : Launch) (G : JG) (F : jF G = false) (a0 : Nat) (hp0 : jkd a0 7) (M : SM) {q : SM} (hf : f_Re_begin a0 M = some q) : jMet l jy_Re_begin jb_Re_begin 1 none 3 0 0 G [.ref a0] jN0 (jce G M) none jN0 (jce G q) :=
  j_met jo_Re_begin (by decide) (Nat.le_of_ble_eq_true rfl) (fun p e s m args below meth c C hr hm => K_Re_begin C F (Nat.le_refl _) a0 hp0 M (fun t => t = q) (fun M' hX pc ls hd => by cases hX; exact w_vret C hr hd) _ hf rfl)
def f_Re_isEnd (a0 : Nat) (M : SM) : Option Int32 := if (M.1 a0 1) = 0 then (some 1) else (some 0)
section
variable {p : Program} {l : Launch} {e : Env} {R : Room} {s : State} {m : MethodId} {args : Array Value} {below : List Frame} {meth : Method} {c : Code} {G : JG} {D : Nat} {Q : State → Prop}
set_option maxHeartbeats 4000000 in
set_option maxRecDepth 20000 in
theorem K_Re_isEnd (C : jCx p R s m args meth c G jb_Re_isEnd 1 D "SluicePit$Reader") (F : jF G = false) (hD : 1 ≤ D) (a0 : Nat) (hp0 : jkd a0 7) (M : SM) (X : Int32 → Prop) (hR : ∀ v, X v → ∀ (pc : Nat) (ls : List (Option Value)), decode jb_Re_isEnd pc = .ok (.ireturn, 1) → narrow FieldType.boolean (.int v) = .int v → Wk p l e R s m args below meth c G 1 Q 0 0 jN0 (jce G M) pc ls [.int v]) : J X (f_Re_isEnd a0 M) (Wk p l e R s m args below meth c G 1 Q 0 0 jN0 (jce G M) 0 [some (.ref a0)] []) := by
  unfold f_Re_isEnd
  refine J_mono (w_aload_n C (jd jdt_Re_isEnd 0 rfl) rfl) ?_
  refine J_mono (jg_Re_19 C hp0 (jd jdt_Re_isEnd 1 rfl)) ?_
  refine J_br (w_if_ne (y := 0) C (jd jdt_Re_isEnd 2 rfl) rfl) (fun h1 => J_pos h1 ?_) (fun h1 => J_neg h1 ?_)
  · refine J_mono (w_iconst_1 C (jd jdt_Re_isEnd 3 rfl)) ?_
    refine J_mono (w_goto C (jd jdt_Re_isEnd 4 rfl) rfl) ?_
    exact J_some (fun hx => hR 1 hx _ _ (jd jdt_Re_isEnd 6 rfl) rfl)
  · refine J_mono (w_iconst_0 C (jd jdt_Re_isEnd 5 rfl)) ?_
    exact J_some (fun hx => hR 0 hx _ _ (jd jdt_Re_isEnd 6 rfl) rfl)
end
theorem C_Re_isEnd (l : Launch) (G : JG) (F : jF G = false) (a0 : Nat) (hp0 : jkd a0 7) (M : SM) {q : Int32} (hf : f_Re_isEnd a0 M = some q) : jMet l jy_Re_isEnd jb_Re_isEnd 1 (some FieldType.boolean) 1 0 0 G [.ref a0] jN0 (jce G M) (some (.int q)) jN0 (jce G M) :=
  j_met jo_Re_isEnd (by decide) (Nat.le_of_ble_eq_true rfl) (fun p e s m args below meth c C hr hm => K_Re_isEnd C F (Nat.le_refl _) a0 hp0 M (fun t => t = q) (fun v hX pc ls hd hn => by cases hX; exact w_iret C hr hn hd) _ hf rfl)
def f_Sp_at (a0 : Nat) (a1 : Int32) (M : SM) : Option Int32 := if a1 < 0 then (some 0) else (if a1 < (nI (jln a0)) then ((aI M a0 a1).bind fun v3 => some v3) else (some 0))
section
variable {p : Program} {l : Launch} {e : Env} {R : Room} {s : State} {m : MethodId} {args : Array Value} {below : List Frame} {meth : Method} {c : Code} {G : JG} {D : Nat} {Q : State → Prop}
set_option maxHeartbeats 4000000 in
set_option maxRecDepth 20000 in
theorem K_Sp_at (C : jCx p R s m args meth c G jb_Sp_at 2 D "SluicePit") (F : jF G = false) (hD : 1 ≤ D) (a0 : Nat) (a1 : Int32) (hp0 : jkd a0 100) (M : SM) (X : Int32 → Prop) (hR : ∀ v, X v → ∀ (pc : Nat) (ls : List (Option Value)), decode jb_Sp_at pc = .ok (.ireturn, 1) → narrow FieldType.int (.int v) = .int v → Wk p l e R s m args below meth c G 2 Q 0 0 jN0 (jce G M) pc ls [.int v]) : J X (f_Sp_at a0 a1 M) (Wk p l e R s m args below meth c G 2 Q 0 0 jN0 (jce G M) 0 [some (.ref a0), some (.int a1)] []) := by
  unfold f_Sp_at
  refine J_mono (w_iload_n C (jd jdt_Sp_at 0 rfl) rfl) ?_
  refine J_br (w_if_lt (y := 0) C (jd jdt_Sp_at 1 rfl) rfl) (fun h1 => J_pos h1 ?_) (fun h1 => J_neg h1 ?_)
  · refine J_mono (w_iconst_0 C (jd jdt_Sp_at 10 rfl)) ?_
    exact J_some (fun hx => hR 0 hx _ _ (jd jdt_Sp_at 11 rfl) rfl)
  · refine J_mono (w_iload_n C (jd jdt_Sp_at 2 rfl) rfl) ?_
    refine J_mono (w_aload_n C (jd jdt_Sp_at 3 rfl) rfl) ?_
    refine J_mono (w_alen C (.inl hp0) (jd jdt_Sp_at 4 rfl)) ?_
    refine J_br (w_icmp_ge C (jd jdt_Sp_at 5 rfl) rfl) (fun h2 => J_pos h2 ?_) (fun h2 => J_neg h2 ?_)
    · refine J_mono (w_aload_n C (jd jdt_Sp_at 6 rfl) rfl) ?_
      refine J_mono (w_iload_n C (jd jdt_Sp_at 7 rfl) rfl) ?_
      refine J_bind (fun v3 hv3 => ?_)
      refine J_mono (w_iald C hp0 hv3 (jd jdt_Sp_at 8 rfl)) ?_
      refine J_mono (w_goto C (jd jdt_Sp_at 9 rfl) rfl) ?_
      exact J_some (fun hx => hR v3 hx _ _ (jd jdt_Sp_at 11 rfl) rfl)
    · refine J_mono (w_iconst_0 C (jd jdt_Sp_at 10 rfl)) ?_
      exact J_some (fun hx => hR 0 hx _ _ (jd jdt_Sp_at 11 rfl) rfl)
end
theorem C_Sp_at (l : Launch) (G : JG) (F : jF G = false) (a0 : Nat) (a1 : Int32) (hp0 : jkd a0 100) (M : SM) {q : Int32} (hf : f_Sp_at a0 a1 M = some q) : jMet l jy_Sp_at jb_Sp_at 2 (some FieldType.int) 1 0 0 G [.ref a0, .int a1] jN0 (jce G M) (some (.int q)) jN0 (jce G M) :=
  j_met jo_Sp_at (by decide) (Nat.le_of_ble_eq_true rfl) (fun p e s m args below meth c C hr hm => K_Sp_at C F (Nat.le_refl _) a0 a1 hp0 M (fun t => t = q) (fun v hX pc ls hd hn => by cases hX; exact w_iret C hr hn hd) _ hf rfl)
def lp_Re_isPiece_28 (y0 : Nat) (y1 : Nat) (y2 : Int32) (y3 : Int32) (M : SM) : Nat → Int32 → Option ((Unit) ⊕ Int32)
  | 0, _ => none
  | n + 1, x4 => if x4 < y3 then (if x4 < (jsln y1) then ((f_Sp_at (jpf y0 2) (x4 - y2) M).bind fun q5 => (jsch y1 x4).bind fun v6 => if q5 = v6 then (lp_Re_isPiece_28 y0 y1 y2 y3 M n (x4 + 1)) else (some (.inr 0))) else (some (.inl ()))) else (some (.inl ()))
def f_Re_isPiece (a0 : Nat) (a1 : Nat) (a2 : Int32) (a3 : Int32) (M : SM) : Option Int32 := if (M.1 a0 1) = 1 then (if (a3 - a2) = ((M.1 a0 4) - (M.1 a0 3)) then (jsb (lp_Re_isPiece_28 a0 a1 a2 a3 M jfuel a2) id fun q8 => some 1) else (some 0)) else (some 0)
section
variable {p : Program} {l : Launch} {e : Env} {R : Room} {s : State} {m : MethodId} {args : Array Value} {below : List Frame} {meth : Method} {c : Code} {G : JG} {D : Nat} {Q : State → Prop}
set_option maxHeartbeats 4000000 in
set_option maxRecDepth 20000 in
theorem K_Re_isPiece (C : jCx p R s m args meth c G jb_Re_isPiece 5 D "SluicePit$Reader") (F : jF G = false) (hD : 7 ≤ D) (a0 : Nat) (a1 : Nat) (a2 : Int32) (a3 : Int32) (hp0 : jkd a0 7) (hp1 : jks a1) (M : SM) (X : Int32 → Prop) (hR : ∀ v, X v → ∀ (pc : Nat) (ls : List (Option Value)), decode jb_Re_isPiece pc = .ok (.ireturn, 1) → narrow FieldType.boolean (.int v) = .int v → Wk p l e R s m args below meth c G 5 Q 0 0 jN0 (jce G M) pc ls [.int v]) : J X (f_Re_isPiece a0 a1 a2 a3 M) (Wk p l e R s m args below meth c G 5 Q 0 0 jN0 (jce G M) 0 [some (.ref a0), some (.ref a1), some (.int a2), some (.int a3), none] []) := by
  unfold f_Re_isPiece
  refine J_mono (w_aload_n C (jd jdt_Re_isPiece 0 rfl) rfl) ?_
  refine J_mono (jg_Re_19 C hp0 (jd jdt_Re_isPiece 1 rfl)) ?_
  refine J_mono (w_iconst_1 C (jd jdt_Re_isPiece 2 rfl)) ?_
  refine J_br (w_icmp_ne C (jd jdt_Re_isPiece 3 rfl) rfl) (fun h1 => J_pos h1 ?_) (fun h1 => J_neg h1 ?_)
  · refine J_mono (w_iload_n C (jd jdt_Re_isPiece 4 rfl) rfl) ?_
    refine J_mono (w_iload_n C (jd jdt_Re_isPiece 5 rfl) rfl) ?_
    refine J_mono (w_isub C (jd jdt_Re_isPiece 6 rfl)) ?_
    refine J_mono (w_aload_n C (jd jdt_Re_isPiece 7 rfl) rfl) ?_
    refine J_mono (jg_Re_26 C hp0 (jd jdt_Re_isPiece 8 rfl)) ?_
    refine J_mono (w_aload_n C (jd jdt_Re_isPiece 9 rfl) rfl) ?_
    refine J_mono (jg_Re_23 C hp0 (jd jdt_Re_isPiece 10 rfl)) ?_
    refine J_mono (w_isub C (jd jdt_Re_isPiece 11 rfl)) ?_
    refine J_br (w_icmp_eq C (jd jdt_Re_isPiece 12 rfl) rfl) (fun h2 => J_pos h2 ?_) (fun h2 => J_neg h2 ?_)
    · refine J_mono (w_iload_n C (jd jdt_Re_isPiece 15 rfl) rfl) ?_
      refine J_mono (w_istore (ls' := [some (.ref a0), some (.ref a1), some (.int a2), some (.int a3), some (.int a2)]) C (jd jdt_Re_isPiece 16 rfl) (by decide) rfl rfl) ?_
      have L28 : ∀ (y0 : Nat) (y1 : Nat) (y2 : Int32) (y3 : Int32) (hy0 : jkd y0 7) (hy1 : jks y1) (n : Nat) (x4 : Int32), J (Sum.elim (fun (q8 : Unit) => Wk p l e R s m args below meth c G 5 Q 0 0 jN0 (jce G M) 71 [none, none, none, none, none] []) X) (lp_Re_isPiece_28 y0 y1 y2 y3 M n x4) (Wk p l e R s m args below meth c G 5 Q 0 0 jN0 (jce G M) 28 [some (.ref y0), some (.ref y1), some (.int y2), some (.int y3), some (.int x4)] []) := by
        intro y0 y1 y2 y3 hy0 hy1 n
        induction n with
        | zero => intro x4; exact J_none
        | succ n ih =>
          intro x4
          unfold lp_Re_isPiece_28
          refine J_mono (w_iload C (jd jdt_Re_isPiece 17 rfl) rfl) ?_
          refine J_mono (w_iload_n C (jd jdt_Re_isPiece 18 rfl) rfl) ?_
          refine J_br (w_icmp_ge C (jd jdt_Re_isPiece 19 rfl) rfl) (fun h3 => J_pos h3 ?_) (fun h3 => J_neg h3 ?_)
          · refine J_mono (w_iload C (jd jdt_Re_isPiece 20 rfl) rfl) ?_
            refine J_mono (w_aload_n C (jd jdt_Re_isPiece 21 rfl) rfl) ?_
            refine J_mono (jc_Re_61 C hy1 rfl (Nat.le_trans (Nat.le_of_ble_eq_true rfl : 2 + 1 ≤ 7) hD) (jd jdt_Re_isPiece 22 rfl)) ?_
            refine J_br (w_icmp_ge C (jd jdt_Re_isPiece 23 rfl) rfl) (fun h4 => J_pos h4 ?_) (fun h4 => J_neg h4 ?_)
            · refine J_mono (w_aload_n C (jd jdt_Re_isPiece 24 rfl) rfl) ?_
              refine J_mono (jg_Re_15 C hy0 (jd jdt_Re_isPiece 25 rfl)) ?_
              refine J_mono (w_iload C (jd jdt_Re_isPiece 26 rfl) rfl) ?_
              refine J_mono (w_iload_n C (jd jdt_Re_isPiece 27 rfl) rfl) ?_
              refine J_mono (w_isub C (jd jdt_Re_isPiece 28 rfl)) ?_
              refine J_bind (fun q5 hq5 => ?_)
              refine J_mono (jc_Re_71 C (C_Sp_at l G F (jpf y0 2) (x4 - y2) (jkf_7_2 hy0) M hq5) rfl (Nat.le_trans (Nat.le_of_ble_eq_true rfl : 1 + 1 ≤ 7) hD) (jd jdt_Re_isPiece 29 rfl)) ?_
              refine J_mono (w_aload_n C (jd jdt_Re_isPiece 30 rfl) rfl) ?_
              refine J_mono (w_iload C (jd jdt_Re_isPiece 31 rfl) rfl) ?_
              refine J_bind (fun v6 hv6 => ?_)
              refine J_mono (jc_Re_75 C hy1 hv6 rfl (Nat.le_trans (Nat.le_of_ble_eq_true rfl : 4 + 1 ≤ 7) hD) (jd jdt_Re_isPiece 32 rfl)) ?_
              refine J_br (w_icmp_eq C (jd jdt_Re_isPiece 33 rfl) rfl) (fun h7 => J_pos h7 ?_) (fun h7 => J_neg h7 ?_)
              · refine J_mono (w_iinc (v := x4 + 1) (ls' := [some (.ref y0), some (.ref y1), some (.int y2), some (.int y3), some (.int (x4 + 1))]) C (jd jdt_Re_isPiece 36 rfl) rfl rfl (by decide) rfl rfl) ?_
                refine J_mono (w_goto C (jd jdt_Re_isPiece 37 rfl) rfl) ?_
                exact J_sub (ih (x4 + 1)) ⟨rfl, rfl, rfl, rfl, rfl, trivial⟩
              · refine J_mono (w_iconst_0 C (jd jdt_Re_isPiece 34 rfl)) ?_
                exact J_some (fun hx => hR 0 hx _ _ (jd jdt_Re_isPiece 35 rfl) rfl)
            · exact J_some (fun hx => Wk_sb hx trivial)
          · exact J_some (fun hx => Wk_sb hx trivial)
      refine J_sb (fun (q8 : Unit) => Wk p l e R s m args below meth c G 5 Q 0 0 jN0 (jce G M) 71 [none, none, none, none, none] []) (J_sub (L28 a0 a1 a2 a3 hp0 hp1 jfuel a2) ⟨rfl, rfl, rfl, rfl, rfl, trivial⟩) (fun q8 => ?_)
      refine J_mono (w_iconst_1 C (jd jdt_Re_isPiece 38 rfl)) ?_
      exact J_some (fun hx => hR 1 hx _ _ (jd jdt_Re_isPiece 39 rfl) rfl)
    · refine J_mono (w_iconst_0 C (jd jdt_Re_isPiece 13 rfl)) ?_
      exact J_some (fun hx => hR 0 hx _ _ (jd jdt_Re_isPiece 14 rfl) rfl)
  · refine J_mono (w_iconst_0 C (jd jdt_Re_isPiece 13 rfl)) ?_
    exact J_some (fun hx => hR 0 hx _ _ (jd jdt_Re_isPiece 14 rfl) rfl)
end
theorem C_Re_isPiece (l : Launch) (G : JG) (F : jF G = false) (a0 : Nat) (a1 : Nat) (a2 : Int32) (a3 : Int32) (hp0 : jkd a0 7) (hp1 : jks a1) (M : SM) {q : Int32} (hf : f_Re_isPiece a0 a1 a2 a3 M = some q) : jMet l jy_Re_isPiece jb_Re_isPiece 5 (some FieldType.boolean) 7 0 0 G [.ref a0, .ref a1, .int a2, .int a3] jN0 (jce G M) (some (.int q)) jN0 (jce G M) :=
  j_met jo_Re_isPiece (by decide) (Nat.le_of_ble_eq_true rfl) (fun p e s m args below meth c C hr hm => K_Re_isPiece C F (Nat.le_refl _) a0 a1 a2 a3 hp0 hp1 M (fun t => t = q) (fun v hX pc ls hd hn => by cases hX; exact w_iret C hr hn hd) _ hf rfl)
def f_Re_fail (a0 : Nat) (a1 : Int32) (a2 : Int32) (M : SM) : Option (Int32 × SM) := some (0, sI (sI M a0 5 a1) a0 6 a2)
section
variable {p : Program} {l : Launch} {e : Env} {R : Room} {s : State} {m : MethodId} {args : Array Value} {below : List Frame} {meth : Method} {c : Code} {G : JG} {D : Nat} {Q : State → Prop}
set_option maxHeartbeats 4000000 in
set_option maxRecDepth 20000 in
theorem K_Re_fail (C : jCx p R s m args meth c G jb_Re_fail 3 D "SluicePit$Reader") (F : jF G = false) (hD : 1 ≤ D) (a0 : Nat) (a1 : Int32) (a2 : Int32) (hp0 : jkd a0 7) (M : SM) (X : (Int32 × SM) → Prop) (hR : ∀ v M', X (v, M') → ∀ (pc : Nat) (ls : List (Option Value)), decode jb_Re_fail pc = .ok (.ireturn, 1) → narrow FieldType.boolean (.int v) = .int v → Wk p l e R s m args below meth c G 3 Q 0 0 jN0 (jce G M') pc ls [.int v]) : J X (f_Re_fail a0 a1 a2 M) (Wk p l e R s m args below meth c G 3 Q 0 0 jN0 (jce G M) 0 [some (.ref a0), some (.int a1), some (.int a2)] []) := by
  unfold f_Re_fail
  refine J_mono (w_aload_n C (jd jdt_Re_fail 0 rfl) rfl) ?_
  refine J_mono (w_iload_n C (jd jdt_Re_fail 1 rfl) rfl) ?_
  refine J_mono (jp_Re_29 C F hp0 (jd jdt_Re_fail 2 rfl)) ?_
  refine J_mono (w_aload_n C (jd jdt_Re_fail 3 rfl) rfl) ?_
  refine J_mono (w_iload_n C (jd jdt_Re_fail 4 rfl) rfl) ?_
  refine J_mono (jp_Re_32 C F hp0 (jd jdt_Re_fail 5 rfl)) ?_
  refine J_mono (w_iconst_0 C (jd jdt_Re_fail 6 rfl)) ?_
  exact J_some (fun hx => hR 0 (sI (sI M a0 5 a1) a0 6 a2) hx _ _ (jd jdt_Re_fail 7 rfl) rfl)
end
theorem C_Re_fail (l : Launch) (G : JG) (F : jF G = false) (a0 : Nat) (a1 : Int32) (a2 : Int32) (hp0 : jkd a0 7) (M : SM) {q : (Int32 × SM)} (hf : f_Re_fail a0 a1 a2 M = some q) : jMet l jy_Re_fail jb_Re_fail 3 (some FieldType.boolean) 1 0 0 G [.ref a0, .int a1, .int a2] jN0 (jce G M) (some (.int q.1)) jN0 (jce G q.2) :=
  j_met jo_Re_fail (by decide) (Nat.le_of_ble_eq_true rfl) (fun p e s m args below meth c C hr hm => K_Re_fail C F (Nat.le_refl _) a0 a1 a2 hp0 M (fun t => t = q) (fun v M' hX pc ls hd hn => by cases hX; exact w_iret C hr hn hd) _ hf rfl)
def f_Re_refuse (a0 : Nat) (M : SM) : Option (Int32 × SM) := (f_Re_fail a0 1 (M.1 a0 3) M).bind fun q1 => (bchk q1.1).bind fun b2 => some (b2, q1.2)
section
variable {p : Program} {l : Launch} {e : Env} {R : Room} {s : State} {m : MethodId} {args : Array Value} {below : List Frame} {meth : Method} {c : Code} {G : JG} {D : Nat} {Q : State → Prop}
set_option maxHeartbeats 4000000 in
set_option maxRecDepth 20000 in
theorem K_Re_refuse (C : jCx p R s m args meth c G jb_Re_refuse 1 D "SluicePit$Reader") (F : jF G = false) (hD : 2 ≤ D) (a0 : Nat) (hp0 : jkd a0 7) (M : SM) (X : (Int32 × SM) → Prop) (hR : ∀ v M', X (v, M') → ∀ (pc : Nat) (ls : List (Option Value)), decode jb_Re_refuse pc = .ok (.ireturn, 1) → narrow FieldType.boolean (.int v) = .int v → Wk p l e R s m args below meth c G 1 Q 0 0 jN0 (jce G M') pc ls [.int v]) : J X (f_Re_refuse a0 M) (Wk p l e R s m args below meth c G 1 Q 0 0 jN0 (jce G M) 0 [some (.ref a0)] []) := by
  unfold f_Re_refuse
  refine J_mono (w_aload_n C (jd jdt_Re_refuse 0 rfl) rfl) ?_
  refine J_mono (w_iconst_1 C (jd jdt_Re_refuse 1 rfl)) ?_
  refine J_mono (w_aload_n C (jd jdt_Re_refuse 2 rfl) rfl) ?_
  refine J_mono (jg_Re_23 C hp0 (jd jdt_Re_refuse 3 rfl)) ?_
  refine J_bind (fun q1 hq1 => ?_)
  refine J_mono (jc_Re_79 C hp0 (C_Re_fail l G F a0 1 (M.1 a0 3) hp0 M hq1) rfl (Nat.le_trans (Nat.le_of_ble_eq_true rfl : 1 + 1 ≤ 2) hD) (jd jdt_Re_refuse 4 rfl)) ?_
  refine J_bind (fun b2 hb2 => ?_)
  obtain rfl := bchk_e hb2
  exact J_some (fun hx => hR _ q1.2 hx _ _ (jd jdt_Re_refuse 5 rfl) (bchk_n hb2))
end
theorem C_Re_refuse (l : Launch) (G : JG) (F : jF G = false) (a0 : Nat) (hp0 : jkd a0 7) (M : SM) {q : (Int32 × SM)} (hf : f_Re_refuse a0 M = some q) : jMet l jy_Re_refuse jb_Re_refuse 1 (some FieldType.boolean) 2 0 0 G [.ref a0] jN0 (jce G M) (some (.int q.1)) jN0 (jce G q.2) :=
  j_met jo_Re_refuse (by decide) (Nat.le_of_ble_eq_true rfl) (fun p e s m args below meth c C hr hm => K_Re_refuse C F (Nat.le_refl _) a0 hp0 M (fun t => t = q) (fun v M' hX pc ls hd hn => by cases hX; exact w_iret C hr hn hd) _ hf rfl)
def f_Re_takeWord (a0 : Nat) (a1 : Nat) (M : SM) : Option (Int32 × SM) := (f_Re_isPiece a0 a1 0 (jsln a1) M).bind fun q1 => if q1 = 0 then ((f_Re_refuse a0 M).bind fun q3 => (bchk q3.1).bind fun b4 => some (b4, q3.2)) else ((f_Re_step a0 M).bind fun q5 => some (1, q5))
section
variable {p : Program} {l : Launch} {e : Env} {R : Room} {s : State} {m : MethodId} {args : Array Value} {below : List Frame} {meth : Method} {c : Code} {G : JG} {D : Nat} {Q : State → Prop}
set_option maxHeartbeats 4000000 in
set_option maxRecDepth 20000 in
theorem K_Re_takeWord (C : jCx p R s m args meth c G jb_Re_takeWord 2 D "SluicePit$Reader") (F : jF G = false) (hD : 8 ≤ D) (a0 : Nat) (a1 : Nat) (hp0 : jkd a0 7) (hp1 : jks a1) (M : SM) (X : (Int32 × SM) → Prop) (hR : ∀ v M', X (v, M') → ∀ (pc : Nat) (ls : List (Option Value)), decode jb_Re_takeWord pc = .ok (.ireturn, 1) → narrow FieldType.boolean (.int v) = .int v → Wk p l e R s m args below meth c G 2 Q 0 0 jN0 (jce G M') pc ls [.int v]) : J X (f_Re_takeWord a0 a1 M) (Wk p l e R s m args below meth c G 2 Q 0 0 jN0 (jce G M) 0 [some (.ref a0), some (.ref a1)] []) := by
  unfold f_Re_takeWord
  refine J_mono (w_aload_n C (jd jdt_Re_takeWord 0 rfl) rfl) ?_
  refine J_mono (w_aload_n C (jd jdt_Re_takeWord 1 rfl) rfl) ?_
  refine J_mono (w_iconst_0 C (jd jdt_Re_takeWord 2 rfl)) ?_
  refine J_mono (w_aload_n C (jd jdt_Re_takeWord 3 rfl) rfl) ?_
  refine J_mono (jc_Re_61 C hp1 rfl (Nat.le_trans (Nat.le_of_ble_eq_true rfl : 2 + 1 ≤ 8) hD) (jd jdt_Re_takeWord 4 rfl)) ?_
  refine J_bind (fun q1 hq1 => ?_)
  refine J_mono (jc_Re_67 C hp0 (C_Re_isPiece l G F a0 a1 0 (jsln a1) hp0 hp1 M hq1) rfl (Nat.le_trans (Nat.le_of_ble_eq_true rfl : 7 + 1 ≤ 8) hD) (jd jdt_Re_takeWord 5 rfl)) ?_
  refine J_br (w_if_ne (y := 0) C (jd jdt_Re_takeWord 6 rfl) rfl) (fun h2 => J_pos h2 ?_) (fun h2 => J_neg h2 ?_)
  · refine J_mono (w_aload_n C (jd jdt_Re_takeWord 7 rfl) rfl) ?_
    refine J_bind (fun q3 hq3 => ?_)
    refine J_mono (jc_Re_83 C hp0 (C_Re_refuse l G F a0 hp0 M hq3) rfl (Nat.le_trans (Nat.le_of_ble_eq_true rfl : 2 + 1 ≤ 8) hD) (jd jdt_Re_takeWord 8 rfl)) ?_
    refine J_bind (fun b4 hb4 => ?_)
    obtain rfl := bchk_e hb4
    exact J_some (fun hx => hR _ q3.2 hx _ _ (jd jdt_Re_takeWord 9 rfl) (bchk_n hb4))
  · refine J_mono (w_aload_n C (jd jdt_Re_takeWord 10 rfl) rfl) ?_
    refine J_bind (fun q5 hq5 => ?_)
    refine J_mono (jc_Re_35 C hp0 (C_Re_step l G F a0 hp0 M hq5) rfl (Nat.le_trans (Nat.le_of_ble_eq_true rfl : 2 + 1 ≤ 8) hD) (jd jdt_Re_takeWord 11 rfl)) ?_
    refine J_mono (w_iconst_1 C (jd jdt_Re_takeWord 12 rfl)) ?_
    exact J_some (fun hx => hR 1 q5 hx _ _ (jd jdt_Re_takeWord 13 rfl) rfl)
end
theorem C_Re_takeWord (l : Launch) (G : JG) (F : jF G = false) (a0 : Nat) (a1 : Nat) (hp0 : jkd a0 7) (hp1 : jks a1) (M : SM) {q : (Int32 × SM)} (hf : f_Re_takeWord a0 a1 M = some q) : jMet l jy_Re_takeWord jb_Re_takeWord 2 (some FieldType.boolean) 8 0 0 G [.ref a0, .ref a1] jN0 (jce G M) (some (.int q.1)) jN0 (jce G q.2) :=
  j_met jo_Re_takeWord (by decide) (Nat.le_of_ble_eq_true rfl) (fun p e s m args below meth c C hr hm => K_Re_takeWord C F (Nat.le_refl _) a0 a1 hp0 hp1 M (fun t => t = q) (fun v M' hX pc ls hd hn => by cases hX; exact w_iret C hr hn hd) _ hf rfl)
def lp_Re_takeNumber_50 (y0 : Nat) (M : SM) : Nat → Int32 → Int32 → Option (Int32)
  | 0, _, _ => none
  | n + 1, x3, x4 => if x4 < (M.1 y0 4) then ((f_Ta_read (jpf y0 0) x4 M).bind fun q5 => lp_Re_takeNumber_50 y0 M n (((10 * x3) + q5) - 48) (x4 + 1)) else (some x3)
def f_Re_takeNumber (a0 : Nat) (a1 : Int32) (a2 : Int32) (M : SM) : Option (Int32 × SM) := if (M.1 a0 1) = 2 then (if 4 < ((M.1 a0 4) - (M.1 a0 3)) then ((f_Re_fail a0 1 ((M.1 a0 3) + 4) M).bind fun q3 => some ((-1), q3.2)) else ((lp_Re_takeNumber_50 a0 M jfuel 0 (M.1 a0 3)).bind fun q6 => if q6 < a1 then ((f_Re_fail a0 2 (M.1 a0 3) M).bind fun q8 => some ((-1), q8.2)) else (if a2 < q6 then ((f_Re_fail a0 2 (M.1 a0 3) M).bind fun q10 => some ((-1), q10.2)) else ((f_Re_step a0 M).bind fun q11 => some (q6, q11))))) else ((f_Re_refuse a0 M).bind fun q12 => some ((-1), q12.2))
section
variable {p : Program} {l : Launch} {e : Env} {R : Room} {s : State} {m : MethodId} {args : Array Value} {below : List Frame} {meth : Method} {c : Code} {G : JG} {D : Nat} {Q : State → Prop}
set_option maxHeartbeats 4000000 in
set_option maxRecDepth 20000 in
theorem K_Re_takeNumber (C : jCx p R s m args meth c G jb_Re_takeNumber 5 D "SluicePit$Reader") (F : jF G = false) (hD : 3 ≤ D) (a0 : Nat) (a1 : Int32) (a2 : Int32) (hp0 : jkd a0 7) (M : SM) (X : (Int32 × SM) → Prop) (hR : ∀ v M', X (v, M') → ∀ (pc : Nat) (ls : List (Option Value)), decode jb_Re_takeNumber pc = .ok (.ireturn, 1) → narrow FieldType.int (.int v) = .int v → Wk p l e R s m args below meth c G 5 Q 0 0 jN0 (jce G M') pc ls [.int v]) : J X (f_Re_takeNumber a0 a1 a2 M) (Wk p l e R s m args below meth c G 5 Q 0 0 jN0 (jce G M) 0 [some (.ref a0), some (.int a1), some (.int a2), none, none] []) := by
  unfold f_Re_takeNumber
  refine J_mono (w_aload_n C (jd jdt_Re_takeNumber 0 rfl) rfl) ?_
  refine J_mono (jg_Re_19 C hp0 (jd jdt_Re_takeNumber 1 rfl)) ?_
  refine J_mono (w_iconst_2 C (jd jdt_Re_takeNumber 2 rfl)) ?_
  refine J_br (w_icmp_eq C (jd jdt_Re_takeNumber 3 rfl) rfl) (fun h1 => J_pos h1 ?_) (fun h1 => J_neg h1 ?_)
  · refine J_mono (w_aload_n C (jd jdt_Re_takeNumber 9 rfl) rfl) ?_
    refine J_mono (jg_Re_26 C hp0 (jd jdt_Re_takeNumber 10 rfl)) ?_
    refine J_mono (w_aload_n C (jd jdt_Re_takeNumber 11 rfl) rfl) ?_
    refine J_mono (jg_Re_23 C hp0 (jd jdt_Re_takeNumber 12 rfl)) ?_
    refine J_mono (w_isub C (jd jdt_Re_takeNumber 13 rfl)) ?_
    refine J_mono (w_iconst_4 C (jd jdt_Re_takeNumber 14 rfl)) ?_
    refine J_br (w_icmp_le C (jd jdt_Re_takeNumber 15 rfl) rfl) (fun h2 => J_pos h2 ?_) (fun h2 => J_neg h2 ?_)
    · refine J_mono (w_aload_n C (jd jdt_Re_takeNumber 16 rfl) rfl) ?_
      refine J_mono (w_iconst_1 C (jd jdt_Re_takeNumber 17 rfl)) ?_
      refine J_mono (w_aload_n C (jd jdt_Re_takeNumber 18 rfl) rfl) ?_
      refine J_mono (jg_Re_23 C hp0 (jd jdt_Re_takeNumber 19 rfl)) ?_
      refine J_mono (w_iconst_4 C (jd jdt_Re_takeNumber 20 rfl)) ?_
      refine J_mono (w_iadd C (jd jdt_Re_takeNumber 21 rfl)) ?_
      refine J_bind (fun q3 hq3 => ?_)
      refine J_mono (jc_Re_79 C hp0 (C_Re_fail l G F a0 1 ((M.1 a0 3) + 4) hp0 M hq3) rfl (Nat.le_trans (Nat.le_of_ble_eq_true rfl : 1 + 1 ≤ 3) hD) (jd jdt_Re_takeNumber 22 rfl)) ?_
      refine J_mono (w_pop_i C (jd jdt_Re_takeNumber 23 rfl)) ?_
      refine J_mono (w_iconst_m1 C (jd jdt_Re_takeNumber 24 rfl)) ?_
      exact J_some (fun hx => hR (-1) q3.2 hx _ _ (jd jdt_Re_takeNumber 25 rfl) rfl)
    · refine J_mono (w_iconst_0 C (jd jdt_Re_takeNumber 26 rfl)) ?_
      refine J_mono (w_istore_n (ls' := [some (.ref a0), some (.int a1), some (.int a2), some (.int 0), none]) C (jd jdt_Re_takeNumber 27 rfl) (by decide) rfl rfl) ?_
      refine J_mono (w_aload_n C (jd jdt_Re_takeNumber 28 rfl) rfl) ?_
      refine J_mono (jg_Re_23 C hp0 (jd jdt_Re_takeNumber 29 rfl)) ?_
      refine J_mono (w_istore (ls' := [some (.ref a0), some (.int a1), some (.int a2), some (.int 0), some (.int (M.1 a0 3))]) C (jd jdt_Re_takeNumber 30 rfl) (by decide) rfl rfl) ?_
      have L50 : ∀ (y0 : Nat) (y1 : Int32) (y2 : Int32) (hy0 : jkd y0 7) (M : SM) (n : Nat) (x3 : Int32) (x4 : Int32), J (fun (q6 : Int32) => Wk p l e R s m args below meth c G 5 Q 0 0 jN0 (jce G M) 83 [some (.ref y0), some (.int y1), some (.int y2), some (.int q6), none] []) (lp_Re_takeNumber_50 y0 M n x3 x4) (Wk p l e R s m args below meth c G 5 Q 0 0 jN0 (jce G M) 50 [some (.ref y0), some (.int y1), some (.int y2), some (.int x3), some (.int x4)] []) := by
        intro y0 y1 y2 hy0 M n
        induction n with
        | zero => intro x3 x4; exact J_none
        | succ n ih =>
          intro x3 x4
          unfold lp_Re_takeNumber_50
          refine J_mono (w_iload C (jd jdt_Re_takeNumber 31 rfl) rfl) ?_
          refine J_mono (w_aload_n C (jd jdt_Re_takeNumber 32 rfl) rfl) ?_
          refine J_mono (jg_Re_26 C hy0 (jd jdt_Re_takeNumber 33 rfl)) ?_
          refine J_br (w_icmp_ge C (jd jdt_Re_takeNumber 34 rfl) rfl) (fun h4 => J_pos h4 ?_) (fun h4 => J_neg h4 ?_)
          · refine J_mono (w_bipush_10 C (jd jdt_Re_takeNumber 35 rfl)) ?_
            refine J_mono (w_iload_n C (jd jdt_Re_takeNumber 36 rfl) rfl) ?_
            refine J_mono (w_imul C (jd jdt_Re_takeNumber 37 rfl)) ?_
            refine J_mono (w_aload_n C (jd jdt_Re_takeNumber 38 rfl) rfl) ?_
            refine J_mono (jg_Re_9 C hy0 (jd jdt_Re_takeNumber 39 rfl)) ?_
            refine J_mono (w_iload C (jd jdt_Re_takeNumber 40 rfl) rfl) ?_
            refine J_bind (fun q5 hq5 => ?_)
            refine J_mono (jc_Re_43 C (jkf_7_0 hy0) (C_Ta_read l G F (jpf y0 0) x4 (jkf_7_0 hy0) M hq5) rfl (Nat.le_trans (Nat.le_of_ble_eq_true rfl : 1 + 1 ≤ 3) hD) (jd jdt_Re_takeNumber 41 rfl)) ?_
            refine J_mono (w_iadd C (jd jdt_Re_takeNumber 42 rfl)) ?_
            refine J_mono (w_bipush_48 C (jd jdt_Re_takeNumber 43 rfl)) ?_
            refine J_mono (w_isub C (jd jdt_Re_takeNumber 44 rfl)) ?_
            refine J_mono (w_istore_n (ls' := [some (.ref y0), some (.int y1), some (.int y2), some (.int (((10 * x3) + q5) - 48)), some (.int x4)]) C (jd jdt_Re_takeNumber 45 rfl) (by decide) rfl rfl) ?_
            refine J_mono (w_iinc (v := x4 + 1) (ls' := [some (.ref y0), some (.int y1), some (.int y2), some (.int (((10 * x3) + q5) - 48)), some (.int (x4 + 1))]) C (jd jdt_Re_takeNumber 46 rfl) rfl rfl (by decide) rfl rfl) ?_
            refine J_mono (w_goto C (jd jdt_Re_takeNumber 47 rfl) rfl) ?_
            exact J_sub (ih (((10 * x3) + q5) - 48) (x4 + 1)) ⟨rfl, rfl, rfl, rfl, rfl, trivial⟩
          · exact J_some (fun hx => Wk_sb hx ⟨rfl, rfl, rfl, rfl, trivial⟩)
      refine J_seq (fun (q6 : Int32) => Wk p l e R s m args below meth c G 5 Q 0 0 jN0 (jce G M) 83 [some (.ref a0), some (.int a1), some (.int a2), some (.int q6), none] []) (J_sub (L50 a0 a1 a2 hp0 M jfuel 0 (M.1 a0 3)) ⟨rfl, rfl, rfl, rfl, rfl, trivial⟩) (fun q6 hq6 => ?_)
      refine J_mono (w_iload_n C (jd jdt_Re_takeNumber 48 rfl) rfl) ?_
      refine J_mono (w_iload_n C (jd jdt_Re_takeNumber 49 rfl) rfl) ?_
      refine J_br (w_icmp_lt C (jd jdt_Re_takeNumber 50 rfl) rfl) (fun h7 => J_pos h7 ?_) (fun h7 => J_neg h7 ?_)
      · refine J_mono (w_aload_n C (jd jdt_Re_takeNumber 54 rfl) rfl) ?_
        refine J_mono (w_iconst_2 C (jd jdt_Re_takeNumber 55 rfl)) ?_
        refine J_mono (w_aload_n C (jd jdt_Re_takeNumber 56 rfl) rfl) ?_
        refine J_mono (jg_Re_23 C hp0 (jd jdt_Re_takeNumber 57 rfl)) ?_
        refine J_bind (fun q8 hq8 => ?_)
        refine J_mono (jc_Re_79 C hp0 (C_Re_fail l G F a0 2 (M.1 a0 3) hp0 M hq8) rfl (Nat.le_trans (Nat.le_of_ble_eq_true rfl : 1 + 1 ≤ 3) hD) (jd jdt_Re_takeNumber 58 rfl)) ?_
        refine J_mono (w_pop_i C (jd jdt_Re_takeNumber 59 rfl)) ?_
        refine J_mono (w_iconst_m1 C (jd jdt_Re_takeNumber 60 rfl)) ?_
        exact J_some (fun hx => hR (-1) q8.2 hx _ _ (jd jdt_Re_takeNumber 61 rfl) rfl)
      · refine J_mono (w_iload_n C (jd jdt_Re_takeNumber 51 rfl) rfl) ?_
        refine J_mono (w_iload_n C (jd jdt_Re_takeNumber 52 rfl) rfl) ?_
        refine J_br (w_icmp_le C (jd jdt_Re_takeNumber 53 rfl) rfl) (fun h9 => J_pos h9 ?_) (fun h9 => J_neg h9 ?_)
        · refine J_mono (w_aload_n C (jd jdt_Re_takeNumber 54 rfl) rfl) ?_
          refine J_mono (w_iconst_2 C (jd jdt_Re_takeNumber 55 rfl)) ?_
          refine J_mono (w_aload_n C (jd jdt_Re_takeNumber 56 rfl) rfl) ?_
          refine J_mono (jg_Re_23 C hp0 (jd jdt_Re_takeNumber 57 rfl)) ?_
          refine J_bind (fun q10 hq10 => ?_)
          refine J_mono (jc_Re_79 C hp0 (C_Re_fail l G F a0 2 (M.1 a0 3) hp0 M hq10) rfl (Nat.le_trans (Nat.le_of_ble_eq_true rfl : 1 + 1 ≤ 3) hD) (jd jdt_Re_takeNumber 58 rfl)) ?_
          refine J_mono (w_pop_i C (jd jdt_Re_takeNumber 59 rfl)) ?_
          refine J_mono (w_iconst_m1 C (jd jdt_Re_takeNumber 60 rfl)) ?_
          exact J_some (fun hx => hR (-1) q10.2 hx _ _ (jd jdt_Re_takeNumber 61 rfl) rfl)
        · refine J_mono (w_aload_n C (jd jdt_Re_takeNumber 62 rfl) rfl) ?_
          refine J_bind (fun q11 hq11 => ?_)
          refine J_mono (jc_Re_35 C hp0 (C_Re_step l G F a0 hp0 M hq11) rfl (Nat.le_trans (Nat.le_of_ble_eq_true rfl : 2 + 1 ≤ 3) hD) (jd jdt_Re_takeNumber 63 rfl)) ?_
          refine J_mono (w_iload_n C (jd jdt_Re_takeNumber 64 rfl) rfl) ?_
          exact J_some (fun hx => hR q6 q11 hx _ _ (jd jdt_Re_takeNumber 65 rfl) rfl)
  · refine J_mono (w_aload_n C (jd jdt_Re_takeNumber 4 rfl) rfl) ?_
    refine J_bind (fun q12 hq12 => ?_)
    refine J_mono (jc_Re_83 C hp0 (C_Re_refuse l G F a0 hp0 M hq12) rfl (Nat.le_trans (Nat.le_of_ble_eq_true rfl : 2 + 1 ≤ 3) hD) (jd jdt_Re_takeNumber 5 rfl)) ?_
    refine J_mono (w_pop_i C (jd jdt_Re_takeNumber 6 rfl)) ?_
    refine J_mono (w_iconst_m1 C (jd jdt_Re_takeNumber 7 rfl)) ?_
    exact J_some (fun hx => hR (-1) q12.2 hx _ _ (jd jdt_Re_takeNumber 8 rfl) rfl)
end
theorem C_Re_takeNumber (l : Launch) (G : JG) (F : jF G = false) (a0 : Nat) (a1 : Int32) (a2 : Int32) (hp0 : jkd a0 7) (M : SM) {q : (Int32 × SM)} (hf : f_Re_takeNumber a0 a1 a2 M = some q) : jMet l jy_Re_takeNumber jb_Re_takeNumber 5 (some FieldType.int) 3 0 0 G [.ref a0, .int a1, .int a2] jN0 (jce G M) (some (.int q.1)) jN0 (jce G q.2) :=
  j_met jo_Re_takeNumber (by decide) (Nat.le_of_ble_eq_true rfl) (fun p e s m args below meth c C hr hm => K_Re_takeNumber C F (Nat.le_refl _) a0 a1 a2 hp0 M (fun t => t = q) (fun v M' hX pc ls hd hn => by cases hX; exact w_iret C hr hn hd) _ hf rfl)
def f_Or_takeRiver (a0 : Nat) (M : SM) : Option (Int32 × SM) := (f_Re_takeWord (jpf a0 0) 1000 M).bind fun q1 => if q1.1 = 0 then (some (0, q1.2)) else ((f_Re_takeNumber (jpf a0 0) 2 12 q1.2).bind fun q3 => if q3.1 < 0 then (some (0, q3.2)) else (some (1, sI q3.2 (jop (q3.2.1 a0 2)) 1 q3.1)))
section
variable {p : Program} {l : Launch} {e : Env} {R : Room} {s : State} {m : MethodId} {args : Array Value} {below : List Frame} {meth : Method} {c : Code} {G : JG} {D : Nat} {Q : State → Prop}
set_option maxHeartbeats 4000000 in
set_option maxRecDepth 20000 in
theorem K_Or_takeRiver (C : jCx p R s m args meth c G jb_Or_takeRiver 2 D "SluicePit$OperaReader") (F : jF G = false) (hD : 9 ≤ D) (a0 : Nat) (hp0 : jkd a0 2) (M : SM) (X : (Int32 × SM) → Prop) (hR : ∀ v M', X (v, M') → ∀ (pc : Nat) (ls : List (Option Value)), decode jb_Or_takeRiver pc = .ok (.ireturn, 1) → narrow FieldType.boolean (.int v) = .int v → Wk p l e R s m args below meth c G 2 Q 0 0 jN0 (jce G M') pc ls [.int v]) : J X (f_Or_takeRiver a0 M) (Wk p l e R s m args below meth c G 2 Q 0 0 jN0 (jce G M) 0 [some (.ref a0), none] []) := by
  unfold f_Or_takeRiver
  refine J_mono (w_aload_n C (jd jdt_Or_takeRiver 0 rfl) rfl) ?_
  refine J_mono (jg_Or_9 C hp0 (jd jdt_Or_takeRiver 1 rfl)) ?_
  refine J_mono (w_ldcS (i := 0) C rfl (jd jdt_Or_takeRiver 2 rfl)) ?_
  refine J_bind (fun q1 hq1 => ?_)
  refine J_mono (jc_Or_57 C (jkf_2_0 hp0) (C_Re_takeWord l G F (jpf a0 0) 1000 (jkf_2_0 hp0) (jks_of 0) M hq1) rfl (Nat.le_trans (Nat.le_of_ble_eq_true rfl : 8 + 1 ≤ 9) hD) (jd jdt_Or_takeRiver 3 rfl)) ?_
  refine J_br (w_if_ne (y := 0) C (jd jdt_Or_takeRiver 4 rfl) rfl) (fun h2 => J_pos h2 ?_) (fun h2 => J_neg h2 ?_)
  · refine J_mono (w_iconst_0 C (jd jdt_Or_takeRiver 5 rfl)) ?_
    exact J_some (fun hx => hR 0 q1.2 hx _ _ (jd jdt_Or_takeRiver 6 rfl) rfl)
  · refine J_mono (w_aload_n C (jd jdt_Or_takeRiver 7 rfl) rfl) ?_
    refine J_mono (jg_Or_9 C hp0 (jd jdt_Or_takeRiver 8 rfl)) ?_
    refine J_mono (w_iconst_2 C (jd jdt_Or_takeRiver 9 rfl)) ?_
    refine J_mono (w_bipush_12 C (jd jdt_Or_takeRiver 10 rfl)) ?_
    refine J_bind (fun q3 hq3 => ?_)
    refine J_mono (jc_Or_61 C (jkf_2_0 hp0) (C_Re_takeNumber l G F (jpf a0 0) 2 12 (jkf_2_0 hp0) q1.2 hq3) rfl (Nat.le_trans (Nat.le_of_ble_eq_true rfl : 3 + 1 ≤ 9) hD) (jd jdt_Or_takeRiver 11 rfl)) ?_
    refine J_mono (w_istore_n (ls' := [some (.ref a0), some (.int q3.1)]) C (jd jdt_Or_takeRiver 12 rfl) (by decide) rfl rfl) ?_
    refine J_mono (w_iload_n C (jd jdt_Or_takeRiver 13 rfl) rfl) ?_
    refine J_br (w_if_ge (y := 0) C (jd jdt_Or_takeRiver 14 rfl) rfl) (fun h4 => J_pos h4 ?_) (fun h4 => J_neg h4 ?_)
    · refine J_mono (w_iconst_0 C (jd jdt_Or_takeRiver 15 rfl)) ?_
      exact J_some (fun hx => hR 0 q3.2 hx _ _ (jd jdt_Or_takeRiver 16 rfl) rfl)
    · refine J_mono (w_aload_n C (jd jdt_Or_takeRiver 17 rfl) rfl) ?_
      refine J_mono (jg_Or_19 C hp0 (jd jdt_Or_takeRiver 18 rfl)) ?_
      refine J_mono (w_iload_n C (jd jdt_Or_takeRiver 19 rfl) rfl) ?_
      refine J_mono (jp_Or_65 C F (jop_kd _) (jd jdt_Or_takeRiver 20 rfl)) ?_
      refine J_mono (w_iconst_1 C (jd jdt_Or_takeRiver 21 rfl)) ?_
      exact J_some (fun hx => hR 1 (sI q3.2 (jop (q3.2.1 a0 2)) 1 q3.1) hx _ _ (jd jdt_Or_takeRiver 22 rfl) rfl)
end
theorem C_Or_takeRiver (l : Launch) (G : JG) (F : jF G = false) (a0 : Nat) (hp0 : jkd a0 2) (M : SM) {q : (Int32 × SM)} (hf : f_Or_takeRiver a0 M = some q) : jMet l jy_Or_takeRiver jb_Or_takeRiver 2 (some FieldType.boolean) 9 0 0 G [.ref a0] jN0 (jce G M) (some (.int q.1)) jN0 (jce G q.2) :=
  j_met jo_Or_takeRiver (by decide) (Nat.le_of_ble_eq_true rfl) (fun p e s m args below meth c C hr hm => K_Or_takeRiver C F (Nat.le_refl _) a0 hp0 M (fun t => t = q) (fun v M' hX pc ls hd hn => by cases hX; exact w_iret C hr hn hd) _ hf rfl)
def lp_Re_wordAmong_7 (y0 : Nat) (y1 : Nat) (M : SM) : Nat → Int32 → Int32 → Int32 → Option ((Unit) ⊕ Int32)
  | 0, _, _, _ => none
  | n + 1, x2, x3, x4 => if x4 < (jsln y1) then ((jsch y1 x4).bind fun v2 => if v2 = 32 then ((f_Re_isPiece y0 y1 x3 x4 M).bind fun q4 => if q4 = 0 then (lp_Re_wordAmong_7 y0 y1 M n (x2 + 1) (x4 + 1) (x4 + 1)) else (some (.inr x2))) else (lp_Re_wordAmong_7 y0 y1 M n x2 x3 (x4 + 1))) else (some (.inl ()))
def f_Re_wordAmong (a0 : Nat) (a1 : Nat) (M : SM) : Option Int32 := jsb (lp_Re_wordAmong_7 a0 a1 M jfuel 0 0 0) id fun q6 => some (-1)
section
variable {p : Program} {l : Launch} {e : Env} {R : Room} {s : State} {m : MethodId} {args : Array Value} {below : List Frame} {meth : Method} {c : Code} {G : JG} {D : Nat} {Q : State → Prop}
set_option maxHeartbeats 4000000 in
set_option maxRecDepth 20000 in
theorem K_Re_wordAmong (C : jCx p R s m args meth c G jb_Re_wordAmong 5 D "SluicePit$Reader") (F : jF G = false) (hD : 8 ≤ D) (a0 : Nat) (a1 : Nat) (hp0 : jkd a0 7) (hp1 : jks a1) (M : SM) (X : Int32 → Prop) (hR : ∀ v, X v → ∀ (pc : Nat) (ls : List (Option Value)), decode jb_Re_wordAmong pc = .ok (.ireturn, 1) → narrow FieldType.int (.int v) = .int v → Wk p l e R s m args below meth c G 5 Q 0 0 jN0 (jce G M) pc ls [.int v]) : J X (f_Re_wordAmong a0 a1 M) (Wk p l e R s m args below meth c G 5 Q 0 0 jN0 (jce G M) 0 [some (.ref a0), some (.ref a1), none, none, none] []) := by
  unfold f_Re_wordAmong
  refine J_mono (w_iconst_0 C (jd jdt_Re_wordAmong 0 rfl)) ?_
  refine J_mono (w_istore_n (ls' := [some (.ref a0), some (.ref a1), some (.int 0), none, none]) C (jd jdt_Re_wordAmong 1 rfl) (by decide) rfl rfl) ?_
  refine J_mono (w_iconst_0 C (jd jdt_Re_wordAmong 2 rfl)) ?_
  refine J_mono (w_istore_n (ls' := [some (.ref a0), some (.ref a1), some (.int 0), some (.int 0), none]) C (jd jdt_Re_wordAmong 3 rfl) (by decide) rfl rfl) ?_
  refine J_mono (w_iconst_0 C (jd jdt_Re_wordAmong 4 rfl)) ?_
  refine J_mono (w_istore (ls' := [some (.ref a0), some (.ref a1), some (.int 0), some (.int 0), some (.int 0)]) C (jd jdt_Re_wordAmong 5 rfl) (by decide) rfl rfl) ?_
  have L7 : ∀ (y0 : Nat) (y1 : Nat) (hy0 : jkd y0 7) (hy1 : jks y1) (n : Nat) (x2 : Int32) (x3 : Int32) (x4 : Int32), J (Sum.elim (fun (q6 : Unit) => Wk p l e R s m args below meth c G 5 Q 0 0 jN0 (jce G M) 54 [none, none, none, none, none] []) X) (lp_Re_wordAmong_7 y0 y1 M n x2 x3 x4) (Wk p l e R s m args below meth c G 5 Q 0 0 jN0 (jce G M) 7 [some (.ref y0), some (.ref y1), some (.int x2), some (.int x3), some (.int x4)] []) := by
    intro y0 y1 hy0 hy1 n
    induction n with
    | zero => intro x2 x3 x4; exact J_none
    | succ n ih =>
      intro x2 x3 x4
      unfold lp_Re_wordAmong_7
      refine J_mono (w_iload C (jd jdt_Re_wordAmong 6 rfl) rfl) ?_
      refine J_mono (w_aload_n C (jd jdt_Re_wordAmong 7 rfl) rfl) ?_
      refine J_mono (jc_Re_61 C hy1 rfl (Nat.le_trans (Nat.le_of_ble_eq_true rfl : 2 + 1 ≤ 8) hD) (jd jdt_Re_wordAmong 8 rfl)) ?_
      refine J_br (w_icmp_ge C (jd jdt_Re_wordAmong 9 rfl) rfl) (fun h1 => J_pos h1 ?_) (fun h1 => J_neg h1 ?_)
      · refine J_mono (w_aload_n C (jd jdt_Re_wordAmong 10 rfl) rfl) ?_
        refine J_mono (w_iload C (jd jdt_Re_wordAmong 11 rfl) rfl) ?_
        refine J_bind (fun v2 hv2 => ?_)
        refine J_mono (jc_Re_75 C hy1 hv2 rfl (Nat.le_trans (Nat.le_of_ble_eq_true rfl : 4 + 1 ≤ 8) hD) (jd jdt_Re_wordAmong 12 rfl)) ?_
        refine J_mono (w_bipush_32 C (jd jdt_Re_wordAmong 13 rfl)) ?_
        refine J_br (w_icmp_ne C (jd jdt_Re_wordAmong 14 rfl) rfl) (fun h3 => J_pos h3 ?_) (fun h3 => J_neg h3 ?_)
        · refine J_mono (w_aload_n C (jd jdt_Re_wordAmong 15 rfl) rfl) ?_
          refine J_mono (w_aload_n C (jd jdt_Re_wordAmong 16 rfl) rfl) ?_
          refine J_mono (w_iload_n C (jd jdt_Re_wordAmong 17 rfl) rfl) ?_
          refine J_mono (w_iload C (jd jdt_Re_wordAmong 18 rfl) rfl) ?_
          refine J_bind (fun q4 hq4 => ?_)
          refine J_mono (jc_Re_67 C hy0 (C_Re_isPiece l G F y0 y1 x3 x4 hy0 hy1 M hq4) rfl (Nat.le_trans (Nat.le_of_ble_eq_true rfl : 7 + 1 ≤ 8) hD) (jd jdt_Re_wordAmong 19 rfl)) ?_
          refine J_br (w_if_eq (y := 0) C (jd jdt_Re_wordAmong 20 rfl) rfl) (fun h5 => J_pos h5 ?_) (fun h5 => J_neg h5 ?_)
          · refine J_mono (w_iinc (v := x2 + 1) (ls' := [some (.ref y0), some (.ref y1), some (.int (x2 + 1)), some (.int x3), some (.int x4)]) C (jd jdt_Re_wordAmong 23 rfl) rfl rfl (by decide) rfl rfl) ?_
            refine J_mono (w_iload C (jd jdt_Re_wordAmong 24 rfl) rfl) ?_
            refine J_mono (w_iconst_1 C (jd jdt_Re_wordAmong 25 rfl)) ?_
            refine J_mono (w_iadd C (jd jdt_Re_wordAmong 26 rfl)) ?_
            refine J_mono (w_istore_n (ls' := [some (.ref y0), some (.ref y1), some (.int (x2 + 1)), some (.int (x4 + 1)), some (.int x4)]) C (jd jdt_Re_wordAmong 27 rfl) (by decide) rfl rfl) ?_
            refine J_mono (w_iinc (v := x4 + 1) (ls' := [some (.ref y0), some (.ref y1), some (.int (x2 + 1)), some (.int (x4 + 1)), some (.int (x4 + 1))]) C (jd jdt_Re_wordAmong 28 rfl) rfl rfl (by decide) rfl rfl) ?_
            refine J_mono (w_goto C (jd jdt_Re_wordAmong 29 rfl) rfl) ?_
            exact J_sub (ih (x2 + 1) (x4 + 1) (x4 + 1)) ⟨rfl, rfl, rfl, rfl, rfl, trivial⟩
          · refine J_mono (w_iload_n C (jd jdt_Re_wordAmong 21 rfl) rfl) ?_
            exact J_some (fun hx => hR x2 hx _ _ (jd jdt_Re_wordAmong 22 rfl) rfl)
        · refine J_mono (w_iinc (v := x4 + 1) (ls' := [some (.ref y0), some (.ref y1), some (.int x2), some (.int x3), some (.int (x4 + 1))]) C (jd jdt_Re_wordAmong 28 rfl) rfl rfl (by decide) rfl rfl) ?_
          refine J_mono (w_goto C (jd jdt_Re_wordAmong 29 rfl) rfl) ?_
          exact J_sub (ih x2 x3 (x4 + 1)) ⟨rfl, rfl, rfl, rfl, rfl, trivial⟩
      · exact J_some (fun hx => Wk_sb hx trivial)
  refine J_sb (fun (q6 : Unit) => Wk p l e R s m args below meth c G 5 Q 0 0 jN0 (jce G M) 54 [none, none, none, none, none] []) (J_sub (L7 a0 a1 hp0 hp1 jfuel 0 0 0) ⟨rfl, rfl, rfl, rfl, rfl, trivial⟩) (fun q6 => ?_)
  refine J_mono (w_iconst_m1 C (jd jdt_Re_wordAmong 30 rfl)) ?_
  exact J_some (fun hx => hR (-1) hx _ _ (jd jdt_Re_wordAmong 31 rfl) rfl)
end
theorem C_Re_wordAmong (l : Launch) (G : JG) (F : jF G = false) (a0 : Nat) (a1 : Nat) (hp0 : jkd a0 7) (hp1 : jks a1) (M : SM) {q : Int32} (hf : f_Re_wordAmong a0 a1 M = some q) : jMet l jy_Re_wordAmong jb_Re_wordAmong 5 (some FieldType.int) 8 0 0 G [.ref a0, .ref a1] jN0 (jce G M) (some (.int q)) jN0 (jce G M) :=
  j_met jo_Re_wordAmong (by decide) (Nat.le_of_ble_eq_true rfl) (fun p e s m args below meth c C hr hm => K_Re_wordAmong C F (Nat.le_refl _) a0 a1 hp0 hp1 M (fun t => t = q) (fun v hX pc ls hd hn => by cases hX; exact w_iret C hr hn hd) _ hf rfl)
def f_St_isFull (a0 : Nat) (M : SM) : Option Int32 := if (M.1 a0 2) < 4 then (some 0) else (some 1)
section
variable {p : Program} {l : Launch} {e : Env} {R : Room} {s : State} {m : MethodId} {args : Array Value} {below : List Frame} {meth : Method} {c : Code} {G : JG} {D : Nat} {Q : State → Prop}
set_option maxHeartbeats 4000000 in
set_option maxRecDepth 20000 in
theorem K_St_isFull (C : jCx p R s m args meth c G jb_St_isFull 1 D "SluicePit$Stand") (F : jF G = false) (hD : 1 ≤ D) (a0 : Nat) (hp0 : jkd a0 9) (M : SM) (X : Int32 → Prop) (hR : ∀ v, X v → ∀ (pc : Nat) (ls : List (Option Value)), decode jb_St_isFull pc = .ok (.ireturn, 1) → narrow FieldType.boolean (.int v) = .int v → Wk p l e R s m args below meth c G 1 Q 0 0 jN0 (jce G M) pc ls [.int v]) : J X (f_St_isFull a0 M) (Wk p l e R s m args below meth c G 1 Q 0 0 jN0 (jce G M) 0 [some (.ref a0)] []) := by
  unfold f_St_isFull
  refine J_mono (w_aload_n C (jd jdt_St_isFull 0 rfl) rfl) ?_
  refine J_mono (jg_St_18 C hp0 (jd jdt_St_isFull 1 rfl)) ?_
  refine J_mono (w_iconst_4 C (jd jdt_St_isFull 2 rfl)) ?_
  refine J_br (w_icmp_lt C (jd jdt_St_isFull 3 rfl) rfl) (fun h1 => J_pos h1 ?_) (fun h1 => J_neg h1 ?_)
  · refine J_mono (w_iconst_0 C (jd jdt_St_isFull 6 rfl)) ?_
    exact J_some (fun hx => hR 0 hx _ _ (jd jdt_St_isFull 7 rfl) rfl)
  · refine J_mono (w_iconst_1 C (jd jdt_St_isFull 4 rfl)) ?_
    refine J_mono (w_goto C (jd jdt_St_isFull 5 rfl) rfl) ?_
    exact J_some (fun hx => hR 1 hx _ _ (jd jdt_St_isFull 7 rfl) rfl)
end
theorem C_St_isFull (l : Launch) (G : JG) (F : jF G = false) (a0 : Nat) (hp0 : jkd a0 9) (M : SM) {q : Int32} (hf : f_St_isFull a0 M = some q) : jMet l jy_St_isFull jb_St_isFull 1 (some FieldType.boolean) 1 0 0 G [.ref a0] jN0 (jce G M) (some (.int q)) jN0 (jce G M) :=
  j_met jo_St_isFull (by decide) (Nat.le_of_ble_eq_true rfl) (fun p e s m args below meth c C hr hm => K_St_isFull C F (Nat.le_refl _) a0 hp0 M (fun t => t = q) (fun v hX pc ls hd hn => by cases hX; exact w_iret C hr hn hd) _ hf rfl)
def f_Or_isFull (a0 : Nat) (a1 : Int32) (M : SM) : Option Int32 := if a1 = 2 then (if (M.1 (jop (M.1 a0 2)) 4) < 8 then (some 0) else (some 1)) else (if a1 = 3 then (some 0) else (if a1 = 4 then (some 0) else (if a1 = 5 then ((f_St_isFull (jpf (jop (M.1 a0 2)) 10) M).bind fun q6 => (bchk q6).bind fun b7 => some b7) else (if a1 = 6 then ((f_St_isFull (jpf (jop (M.1 a0 2)) 11) M).bind fun q9 => (bchk q9).bind fun b10 => some b10) else (if a1 = 7 then ((f_St_isFull (jpf (jop (M.1 a0 2)) 12) M).bind fun q12 => (bchk q12).bind fun b13 => some b13) else (some 0))))))
section
variable {p : Program} {l : Launch} {e : Env} {R : Room} {s : State} {m : MethodId} {args : Array Value} {below : List Frame} {meth : Method} {c : Code} {G : JG} {D : Nat} {Q : State → Prop}
set_option maxHeartbeats 4000000 in
set_option maxRecDepth 20000 in
theorem K_Or_isFull (C : jCx p R s m args meth c G jb_Or_isFull 2 D "SluicePit$OperaReader") (F : jF G = false) (hD : 2 ≤ D) (a0 : Nat) (a1 : Int32) (hp0 : jkd a0 2) (M : SM) (X : Int32 → Prop) (hR : ∀ v, X v → ∀ (pc : Nat) (ls : List (Option Value)), decode jb_Or_isFull pc = .ok (.ireturn, 1) → narrow FieldType.boolean (.int v) = .int v → Wk p l e R s m args below meth c G 2 Q 0 0 jN0 (jce G M) pc ls [.int v]) : J X (f_Or_isFull a0 a1 M) (Wk p l e R s m args below meth c G 2 Q 0 0 jN0 (jce G M) 0 [some (.ref a0), some (.int a1)] []) := by
  unfold f_Or_isFull
  refine J_mono (w_iload_n C (jd jdt_Or_isFull 0 rfl) rfl) ?_
  refine J_ite (fun h1 => ?_) (fun h1 => ?_)
  · refine J_mono (w_tsw C h1 (jd jdt_Or_isFull 1 rfl) (by decide) (by decide) rfl rfl) ?_
    refine J_mono (w_aload_n C (jd jdt_Or_isFull 2 rfl) rfl) ?_
    refine J_mono (jg_Or_19 C hp0 (jd jdt_Or_isFull 3 rfl)) ?_
    refine J_mono (jg_Or_127 C (jop_kd _) (jd jdt_Or_isFull 4 rfl)) ?_
    refine J_mono (w_bipush_8 C (jd jdt_Or_isFull 5 rfl)) ?_
    refine J_br (w_icmp_lt C (jd jdt_Or_isFull 6 rfl) rfl) (fun h2 => J_pos h2 ?_) (fun h2 => J_neg h2 ?_)
    · refine J_mono (w_iconst_0 C (jd jdt_Or_isFull 9 rfl)) ?_
      exact J_some (fun hx => hR 0 hx _ _ (jd jdt_Or_isFull 10 rfl) rfl)
    · refine J_mono (w_iconst_1 C (jd jdt_Or_isFull 7 rfl)) ?_
      refine J_mono (w_goto C (jd jdt_Or_isFull 8 rfl) rfl) ?_
      exact J_some (fun hx => hR 1 hx _ _ (jd jdt_Or_isFull 10 rfl) rfl)
  · refine J_ite (fun h3 => ?_) (fun h3 => ?_)
    · refine J_mono (w_tsw C h3 (jd jdt_Or_isFull 1 rfl) (by decide) (by decide) rfl rfl) ?_
      refine J_mono (w_iconst_0 C (jd jdt_Or_isFull 26 rfl)) ?_
      exact J_some (fun hx => hR 0 hx _ _ (jd jdt_Or_isFull 27 rfl) rfl)
    · refine J_ite (fun h4 => ?_) (fun h4 => ?_)
      · refine J_mono (w_tsw C h4 (jd jdt_Or_isFull 1 rfl) (by decide) (by decide) rfl rfl) ?_
        refine J_mono (w_iconst_0 C (jd jdt_Or_isFull 26 rfl)) ?_
        exact J_some (fun hx => hR 0 hx _ _ (jd jdt_Or_isFull 27 rfl) rfl)
      · refine J_ite (fun h5 => ?_) (fun h5 => ?_)
        · refine J_mono (w_tsw C h5 (jd jdt_Or_isFull 1 rfl) (by decide) (by decide) rfl rfl) ?_
          refine J_mono (w_aload_n C (jd jdt_Or_isFull 11 rfl) rfl) ?_
          refine J_mono (jg_Or_19 C hp0 (jd jdt_Or_isFull 12 rfl)) ?_
          refine J_mono (jg_Or_104 C (jop_kd _) (jd jdt_Or_isFull 13 rfl)) ?_
          refine J_bind (fun q6 hq6 => ?_)
          refine J_mono (jc_Or_130 C (jkf_1_10 (jop_kd _)) (C_St_isFull l G F (jpf (jop (M.1 a0 2)) 10) (jkf_1_10 (jop_kd _)) M hq6) rfl (Nat.le_trans (Nat.le_of_ble_eq_true rfl : 1 + 1 ≤ 2) hD) (jd jdt_Or_isFull 14 rfl)) ?_
          refine J_bind (fun b7 hb7 => ?_)
          obtain rfl := bchk_e hb7
          exact J_some (fun hx => hR _ hx _ _ (jd jdt_Or_isFull 15 rfl) (bchk_n hb7))
        · refine J_ite (fun h8 => ?_) (fun h8 => ?_)
          · refine J_mono (w_tsw C h8 (jd jdt_Or_isFull 1 rfl) (by decide) (by decide) rfl rfl) ?_
            refine J_mono (w_aload_n C (jd jdt_Or_isFull 16 rfl) rfl) ?_
            refine J_mono (jg_Or_19 C hp0 (jd jdt_Or_isFull 17 rfl)) ?_
            refine J_mono (jg_Or_114 C (jop_kd _) (jd jdt_Or_isFull 18 rfl)) ?_
            refine J_bind (fun q9 hq9 => ?_)
            refine J_mono (jc_Or_130 C (jkf_1_11 (jop_kd _)) (C_St_isFull l G F (jpf (jop (M.1 a0 2)) 11) (jkf_1_11 (jop_kd _)) M hq9) rfl (Nat.le_trans (Nat.le_of_ble_eq_true rfl : 1 + 1 ≤ 2) hD) (jd jdt_Or_isFull 19 rfl)) ?_
            refine J_bind (fun b10 hb10 => ?_)
            obtain rfl := bchk_e hb10
            exact J_some (fun hx => hR _ hx _ _ (jd jdt_Or_isFull 20 rfl) (bchk_n hb10))
          · refine J_ite (fun h11 => ?_) (fun h11 => ?_)
            · refine J_mono (w_tsw C h11 (jd jdt_Or_isFull 1 rfl) (by decide) (by decide) rfl rfl) ?_
              refine J_mono (w_aload_n C (jd jdt_Or_isFull 21 rfl) rfl) ?_
              refine J_mono (jg_Or_19 C hp0 (jd jdt_Or_isFull 22 rfl)) ?_
              refine J_mono (jg_Or_119 C (jop_kd _) (jd jdt_Or_isFull 23 rfl)) ?_
              refine J_bind (fun q12 hq12 => ?_)
              refine J_mono (jc_Or_130 C (jkf_1_12 (jop_kd _)) (C_St_isFull l G F (jpf (jop (M.1 a0 2)) 12) (jkf_1_12 (jop_kd _)) M hq12) rfl (Nat.le_trans (Nat.le_of_ble_eq_true rfl : 1 + 1 ≤ 2) hD) (jd jdt_Or_isFull 24 rfl)) ?_
              refine J_bind (fun b13 hb13 => ?_)
              obtain rfl := bchk_e hb13
              exact J_some (fun hx => hR _ hx _ _ (jd jdt_Or_isFull 25 rfl) (bchk_n hb13))
            · refine J_mono (w_tswd C (jd jdt_Or_isFull 1 rfl) (fun k9 kA kB => by have kC : k9 = 2 ∨ k9 = 3 ∨ k9 = 4 ∨ k9 = 5 ∨ k9 = 6 ∨ k9 = 7 := (by omega); rcases kC with rfl|rfl|rfl|rfl|rfl|rfl <;> first | exact h1 | exact h3 | exact h4 | exact h5 | exact h8 | exact h11) (by decide) (by decide) rfl) ?_
              refine J_mono (w_iconst_0 C (jd jdt_Or_isFull 26 rfl)) ?_
              exact J_some (fun hx => hR 0 hx _ _ (jd jdt_Or_isFull 27 rfl) rfl)
end
theorem C_Or_isFull (l : Launch) (G : JG) (F : jF G = false) (a0 : Nat) (a1 : Int32) (hp0 : jkd a0 2) (M : SM) {q : Int32} (hf : f_Or_isFull a0 a1 M = some q) : jMet l jy_Or_isFull jb_Or_isFull 2 (some FieldType.boolean) 2 0 0 G [.ref a0, .int a1] jN0 (jce G M) (some (.int q)) jN0 (jce G M) :=
  j_met jo_Or_isFull (by decide) (Nat.le_of_ble_eq_true rfl) (fun p e s m args below meth c C hr hm => K_Or_isFull C F (Nat.le_refl _) a0 a1 hp0 M (fun t => t = q) (fun v hX pc ls hd hn => by cases hX; exact w_iret C hr hn hd) _ hf rfl)
def f_Or_takeCell (a0 : Nat) (M : SM) : Option (Int32 × SM) := (f_Re_takeNumber (jpf a0 0) 0 ((M.1 (jop (M.1 a0 2)) 1) - 1) M).bind fun q1 => some (q1.1, q1.2)
section
variable {p : Program} {l : Launch} {e : Env} {R : Room} {s : State} {m : MethodId} {args : Array Value} {below : List Frame} {meth : Method} {c : Code} {G : JG} {D : Nat} {Q : State → Prop}
set_option maxHeartbeats 4000000 in
set_option maxRecDepth 20000 in
theorem K_Or_takeCell (C : jCx p R s m args meth c G jb_Or_takeCell 1 D "SluicePit$OperaReader") (F : jF G = false) (hD : 4 ≤ D) (a0 : Nat) (hp0 : jkd a0 2) (M : SM) (X : (Int32 × SM) → Prop) (hR : ∀ v M', X (v, M') → ∀ (pc : Nat) (ls : List (Option Value)), decode jb_Or_takeCell pc = .ok (.ireturn, 1) → narrow FieldType.int (.int v) = .int v → Wk p l e R s m args below meth c G 1 Q 0 0 jN0 (jce G M') pc ls [.int v]) : J X (f_Or_takeCell a0 M) (Wk p l e R s m args below meth c G 1 Q 0 0 jN0 (jce G M) 0 [some (.ref a0)] []) := by
  unfold f_Or_takeCell
  refine J_mono (w_aload_n C (jd jdt_Or_takeCell 0 rfl) rfl) ?_
  refine J_mono (jg_Or_9 C hp0 (jd jdt_Or_takeCell 1 rfl)) ?_
  refine J_mono (w_iconst_0 C (jd jdt_Or_takeCell 2 rfl)) ?_
  refine J_mono (w_aload_n C (jd jdt_Or_takeCell 3 rfl) rfl) ?_
  refine J_mono (jg_Or_19 C hp0 (jd jdt_Or_takeCell 4 rfl)) ?_
  refine J_mono (jg_Or_65 C (jop_kd _) (jd jdt_Or_takeCell 5 rfl)) ?_
  refine J_mono (w_iconst_1 C (jd jdt_Or_takeCell 6 rfl)) ?_
  refine J_mono (w_isub C (jd jdt_Or_takeCell 7 rfl)) ?_
  refine J_bind (fun q1 hq1 => ?_)
  refine J_mono (jc_Or_61 C (jkf_2_0 hp0) (C_Re_takeNumber l G F (jpf a0 0) 0 ((M.1 (jop (M.1 a0 2)) 1) - 1) (jkf_2_0 hp0) M hq1) rfl (Nat.le_trans (Nat.le_of_ble_eq_true rfl : 3 + 1 ≤ 4) hD) (jd jdt_Or_takeCell 8 rfl)) ?_
  exact J_some (fun hx => hR q1.1 q1.2 hx _ _ (jd jdt_Or_takeCell 9 rfl) rfl)
end
theorem C_Or_takeCell (l : Launch) (G : JG) (F : jF G = false) (a0 : Nat) (hp0 : jkd a0 2) (M : SM) {q : (Int32 × SM)} (hf : f_Or_takeCell a0 M = some q) : jMet l jy_Or_takeCell jb_Or_takeCell 1 (some FieldType.int) 4 0 0 G [.ref a0] jN0 (jce G M) (some (.int q.1)) jN0 (jce G q.2) :=
  j_met jo_Or_takeCell (by decide) (Nat.le_of_ble_eq_true rfl) (fun p e s m args below meth c C hr hm => K_Or_takeCell C F (Nat.le_refl _) a0 hp0 M (fun t => t = q) (fun v M' hX pc ls hd hn => by cases hX; exact w_iret C hr hn hd) _ hf rfl)
def f_Or_takeGround (a0 : Nat) (a1 : Nat) (a2 : Int32) (M : SM) : Option (Int32 × SM) := (f_Re_takeNumber (jpf a0 0) 0 a2 M).bind fun q1 => if q1.1 < 0 then (some (0, q1.2)) else ((f_Re_takeWord (jpf a0 0) 1002 q1.2).bind fun q3 => if q3.1 = 0 then (some (0, q3.2)) else ((f_Or_takeCell a0 q3.2).bind fun q5 => if q5.1 < 0 then (some (0, q5.2)) else ((f_Sp_put a1 q5.1 q1.1 q5.2).bind fun q7 => some (1, q7))))
section
variable {p : Program} {l : Launch} {e : Env} {R : Room} {s : State} {m : MethodId} {args : Array Value} {below : List Frame} {meth : Method} {c : Code} {G : JG} {D : Nat} {Q : State → Prop}
set_option maxHeartbeats 4000000 in
set_option maxRecDepth 20000 in
theorem K_Or_takeGround (C : jCx p R s m args meth c G jb_Or_takeGround 5 D "SluicePit$OperaReader") (F : jF G = false) (hD : 9 ≤ D) (a0 : Nat) (a1 : Nat) (a2 : Int32) (hp0 : jkd a0 2) (hp1 : jkd a1 100) (M : SM) (X : (Int32 × SM) → Prop) (hR : ∀ v M', X (v, M') → ∀ (pc : Nat) (ls : List (Option Value)), decode jb_Or_takeGround pc = .ok (.ireturn, 1) → narrow FieldType.boolean (.int v) = .int v → Wk p l e R s m args below meth c G 5 Q 0 0 jN0 (jce G M') pc ls [.int v]) : J X (f_Or_takeGround a0 a1 a2 M) (Wk p l e R s m args below meth c G 5 Q 0 0 jN0 (jce G M) 0 [some (.ref a0), some (.ref a1), some (.int a2), none, none] []) := by
  unfold f_Or_takeGround
  refine J_mono (w_aload_n C (jd jdt_Or_takeGround 0 rfl) rfl) ?_
  refine J_mono (jg_Or_9 C hp0 (jd jdt_Or_takeGround 1 rfl)) ?_
  refine J_mono (w_iconst_0 C (jd jdt_Or_takeGround 2 rfl)) ?_
  refine J_mono (w_iload_n C (jd jdt_Or_takeGround 3 rfl) rfl) ?_
  refine J_bind (fun q1 hq1 => ?_)
  refine J_mono (jc_Or_61 C (jkf_2_0 hp0) (C_Re_takeNumber l G F (jpf a0 0) 0 a2 (jkf_2_0 hp0) M hq1) rfl (Nat.le_trans (Nat.le_of_ble_eq_true rfl : 3 + 1 ≤ 9) hD) (jd jdt_Or_takeGround 4 rfl)) ?_
  refine J_mono (w_istore_n (ls' := [some (.ref a0), some (.ref a1), some (.int a2), some (.int q1.1), none]) C (jd jdt_Or_takeGround 5 rfl) (by decide) rfl rfl) ?_
  refine J_mono (w_iload_n C (jd jdt_Or_takeGround 6 rfl) rfl) ?_
  refine J_br (w_if_lt (y := 0) C (jd jdt_Or_takeGround 7 rfl) rfl) (fun h2 => J_pos h2 ?_) (fun h2 => J_neg h2 ?_)
  · refine J_mono (w_iconst_0 C (jd jdt_Or_takeGround 13 rfl)) ?_
    exact J_some (fun hx => hR 0 q1.2 hx _ _ (jd jdt_Or_takeGround 14 rfl) rfl)
  · refine J_mono (w_aload_n C (jd jdt_Or_takeGround 8 rfl) rfl) ?_
    refine J_mono (jg_Or_9 C hp0 (jd jdt_Or_takeGround 9 rfl)) ?_
    refine J_mono (w_ldcS (i := 2) C rfl (jd jdt_Or_takeGround 10 rfl)) ?_
    refine J_bind (fun q3 hq3 => ?_)
    refine J_mono (jc_Or_57 C (jkf_2_0 hp0) (C_Re_takeWord l G F (jpf a0 0) 1002 (jkf_2_0 hp0) (jks_of 2) q1.2 hq3) rfl (Nat.le_trans (Nat.le_of_ble_eq_true rfl : 8 + 1 ≤ 9) hD) (jd jdt_Or_takeGround 11 rfl)) ?_
    refine J_br (w_if_ne (y := 0) C (jd jdt_Or_takeGround 12 rfl) rfl) (fun h4 => J_pos h4 ?_) (fun h4 => J_neg h4 ?_)
    · refine J_mono (w_iconst_0 C (jd jdt_Or_takeGround 13 rfl)) ?_
      exact J_some (fun hx => hR 0 q3.2 hx _ _ (jd jdt_Or_takeGround 14 rfl) rfl)
    · refine J_mono (w_aload_n C (jd jdt_Or_takeGround 15 rfl) rfl) ?_
      refine J_bind (fun q5 hq5 => ?_)
      refine J_mono (jc_Or_136 C hp0 (C_Or_takeCell l G F a0 hp0 q3.2 hq5) rfl (Nat.le_trans (Nat.le_of_ble_eq_true rfl : 4 + 1 ≤ 9) hD) (jd jdt_Or_takeGround 16 rfl)) ?_
      refine J_mono (w_istore (ls' := [some (.ref a0), some (.ref a1), some (.int a2), some (.int q1.1), some (.int q5.1)]) C (jd jdt_Or_takeGround 17 rfl) (by decide) rfl rfl) ?_
      refine J_mono (w_iload C (jd jdt_Or_takeGround 18 rfl) rfl) ?_
      refine J_br (w_if_ge (y := 0) C (jd jdt_Or_takeGround 19 rfl) rfl) (fun h6 => J_pos h6 ?_) (fun h6 => J_neg h6 ?_)
      · refine J_mono (w_iconst_0 C (jd jdt_Or_takeGround 20 rfl)) ?_
        exact J_some (fun hx => hR 0 q5.2 hx _ _ (jd jdt_Or_takeGround 21 rfl) rfl)
      · refine J_mono (w_aload_n C (jd jdt_Or_takeGround 22 rfl) rfl) ?_
        refine J_mono (w_iload C (jd jdt_Or_takeGround 23 rfl) rfl) ?_
        refine J_mono (w_iload_n C (jd jdt_Or_takeGround 24 rfl) rfl) ?_
        refine J_bind (fun q7 hq7 => ?_)
        refine J_mono (jc_Or_140 C (C_Sp_put l G F a1 q5.1 q1.1 hp1 q5.2 hq7) rfl (Nat.le_trans (Nat.le_of_ble_eq_true rfl : 1 + 1 ≤ 9) hD) (jd jdt_Or_takeGround 25 rfl)) ?_
        refine J_mono (w_iconst_1 C (jd jdt_Or_takeGround 26 rfl)) ?_
        exact J_some (fun hx => hR 1 q7 hx _ _ (jd jdt_Or_takeGround 27 rfl) rfl)
end
theorem C_Or_takeGround (l : Launch) (G : JG) (F : jF G = false) (a0 : Nat) (a1 : Nat) (a2 : Int32) (hp0 : jkd a0 2) (hp1 : jkd a1 100) (M : SM) {q : (Int32 × SM)} (hf : f_Or_takeGround a0 a1 a2 M = some q) : jMet l jy_Or_takeGround jb_Or_takeGround 5 (some FieldType.boolean) 9 0 0 G [.ref a0, .ref a1, .int a2] jN0 (jce G M) (some (.int q.1)) jN0 (jce G q.2) :=
  j_met jo_Or_takeGround (by decide) (Nat.le_of_ble_eq_true rfl) (fun p e s m args below meth c C hr hm => K_Or_takeGround C F (Nat.le_refl _) a0 a1 a2 hp0 hp1 M (fun t => t = q) (fun v M' hX pc ls hd hn => by cases hX; exact w_iret C hr hn hd) _ hf rfl)
def f_Re_isSomeWord (a0 : Nat) (M : SM) : Option Int32 := if (M.1 a0 1) = 1 then (some 1) else (some 0)
section
variable {p : Program} {l : Launch} {e : Env} {R : Room} {s : State} {m : MethodId} {args : Array Value} {below : List Frame} {meth : Method} {c : Code} {G : JG} {D : Nat} {Q : State → Prop}
set_option maxHeartbeats 4000000 in
set_option maxRecDepth 20000 in
theorem K_Re_isSomeWord (C : jCx p R s m args meth c G jb_Re_isSomeWord 1 D "SluicePit$Reader") (F : jF G = false) (hD : 1 ≤ D) (a0 : Nat) (hp0 : jkd a0 7) (M : SM) (X : Int32 → Prop) (hR : ∀ v, X v → ∀ (pc : Nat) (ls : List (Option Value)), decode jb_Re_isSomeWord pc = .ok (.ireturn, 1) → narrow FieldType.boolean (.int v) = .int v → Wk p l e R s m args below meth c G 1 Q 0 0 jN0 (jce G M) pc ls [.int v]) : J X (f_Re_isSomeWord a0 M) (Wk p l e R s m args below meth c G 1 Q 0 0 jN0 (jce G M) 0 [some (.ref a0)] []) := by
  unfold f_Re_isSomeWord
  refine J_mono (w_aload_n C (jd jdt_Re_isSomeWord 0 rfl) rfl) ?_
  refine J_mono (jg_Re_19 C hp0 (jd jdt_Re_isSomeWord 1 rfl)) ?_
  refine J_mono (w_iconst_1 C (jd jdt_Re_isSomeWord 2 rfl)) ?_
  refine J_br (w_icmp_ne C (jd jdt_Re_isSomeWord 3 rfl) rfl) (fun h1 => J_pos h1 ?_) (fun h1 => J_neg h1 ?_)
  · refine J_mono (w_iconst_1 C (jd jdt_Re_isSomeWord 4 rfl)) ?_
    refine J_mono (w_goto C (jd jdt_Re_isSomeWord 5 rfl) rfl) ?_
    exact J_some (fun hx => hR 1 hx _ _ (jd jdt_Re_isSomeWord 7 rfl) rfl)
  · refine J_mono (w_iconst_0 C (jd jdt_Re_isSomeWord 6 rfl)) ?_
    exact J_some (fun hx => hR 0 hx _ _ (jd jdt_Re_isSomeWord 7 rfl) rfl)
end
theorem C_Re_isSomeWord (l : Launch) (G : JG) (F : jF G = false) (a0 : Nat) (hp0 : jkd a0 7) (M : SM) {q : Int32} (hf : f_Re_isSomeWord a0 M = some q) : jMet l jy_Re_isSomeWord jb_Re_isSomeWord 1 (some FieldType.boolean) 1 0 0 G [.ref a0] jN0 (jce G M) (some (.int q)) jN0 (jce G M) :=
  j_met jo_Re_isSomeWord (by decide) (Nat.le_of_ble_eq_true rfl) (fun p e s m args below meth c C hr hm => K_Re_isSomeWord C F (Nat.le_refl _) a0 hp0 M (fun t => t = q) (fun v hX pc ls hd hn => by cases hX; exact w_iret C hr hn hd) _ hf rfl)
def f_Re_length (a0 : Nat) (M : SM) : Option Int32 := some ((M.1 a0 4) - (M.1 a0 3))
section
variable {p : Program} {l : Launch} {e : Env} {R : Room} {s : State} {m : MethodId} {args : Array Value} {below : List Frame} {meth : Method} {c : Code} {G : JG} {D : Nat} {Q : State → Prop}
set_option maxHeartbeats 4000000 in
set_option maxRecDepth 20000 in
theorem K_Re_length (C : jCx p R s m args meth c G jb_Re_length 1 D "SluicePit$Reader") (F : jF G = false) (hD : 1 ≤ D) (a0 : Nat) (hp0 : jkd a0 7) (M : SM) (X : Int32 → Prop) (hR : ∀ v, X v → ∀ (pc : Nat) (ls : List (Option Value)), decode jb_Re_length pc = .ok (.ireturn, 1) → narrow FieldType.int (.int v) = .int v → Wk p l e R s m args below meth c G 1 Q 0 0 jN0 (jce G M) pc ls [.int v]) : J X (f_Re_length a0 M) (Wk p l e R s m args below meth c G 1 Q 0 0 jN0 (jce G M) 0 [some (.ref a0)] []) := by
  unfold f_Re_length
  refine J_mono (w_aload_n C (jd jdt_Re_length 0 rfl) rfl) ?_
  refine J_mono (jg_Re_26 C hp0 (jd jdt_Re_length 1 rfl)) ?_
  refine J_mono (w_aload_n C (jd jdt_Re_length 2 rfl) rfl) ?_
  refine J_mono (jg_Re_23 C hp0 (jd jdt_Re_length 3 rfl)) ?_
  refine J_mono (w_isub C (jd jdt_Re_length 4 rfl)) ?_
  exact J_some (fun hx => hR ((M.1 a0 4) - (M.1 a0 3)) hx _ _ (jd jdt_Re_length 5 rfl) rfl)
end
theorem C_Re_length (l : Launch) (G : JG) (F : jF G = false) (a0 : Nat) (hp0 : jkd a0 7) (M : SM) {q : Int32} (hf : f_Re_length a0 M = some q) : jMet l jy_Re_length jb_Re_length 1 (some FieldType.int) 1 0 0 G [.ref a0] jN0 (jce G M) (some (.int q)) jN0 (jce G M) :=
  j_met jo_Re_length (by decide) (Nat.le_of_ble_eq_true rfl) (fun p e s m args below meth c C hr hm => K_Re_length C F (Nat.le_refl _) a0 hp0 M (fun t => t = q) (fun v hX pc ls hd hn => by cases hX; exact w_iret C hr hn hd) _ hf rfl)
def f_Op_named (a0 : Nat) (a1 : Int32) (M : SM) : Option Int32 := if a1 = 0 then (some (M.1 a0 4)) else (if a1 = 1 then (some (M.1 (jpf a0 10) 2)) else (if a1 = 2 then (some (M.1 (jpf a0 11) 2)) else (some 0)))
section
variable {p : Program} {l : Launch} {e : Env} {R : Room} {s : State} {m : MethodId} {args : Array Value} {below : List Frame} {meth : Method} {c : Code} {G : JG} {D : Nat} {Q : State → Prop}
set_option maxHeartbeats 4000000 in
set_option maxRecDepth 20000 in
theorem K_Op_named (C : jCx p R s m args meth c G jb_Op_named 2 D "SluicePit$Opera") (F : jF G = false) (hD : 1 ≤ D) (a0 : Nat) (a1 : Int32) (hp0 : jkd a0 1) (M : SM) (X : Int32 → Prop) (hR : ∀ v, X v → ∀ (pc : Nat) (ls : List (Option Value)), decode jb_Op_named pc = .ok (.ireturn, 1) → narrow FieldType.int (.int v) = .int v → Wk p l e R s m args below meth c G 2 Q 0 0 jN0 (jce G M) pc ls [.int v]) : J X (f_Op_named a0 a1 M) (Wk p l e R s m args below meth c G 2 Q 0 0 jN0 (jce G M) 0 [some (.ref a0), some (.int a1)] []) := by
  unfold f_Op_named
  refine J_mono (w_iload_n C (jd jdt_Op_named 0 rfl) rfl) ?_
  refine J_ite (fun h1 => ?_) (fun h1 => ?_)
  · refine J_mono (w_tsw C h1 (jd jdt_Op_named 1 rfl) (by decide) (by decide) rfl rfl) ?_
    refine J_mono (w_aload_n C (jd jdt_Op_named 2 rfl) rfl) ?_
    refine J_mono (jg_Op_65 C hp0 (jd jdt_Op_named 3 rfl)) ?_
    exact J_some (fun hx => hR (M.1 a0 4) hx _ _ (jd jdt_Op_named 4 rfl) rfl)
  · refine J_ite (fun h2 => ?_) (fun h2 => ?_)
    · refine J_mono (w_tsw C h2 (jd jdt_Op_named 1 rfl) (by decide) (by decide) rfl rfl) ?_
      refine J_mono (w_aload_n C (jd jdt_Op_named 5 rfl) rfl) ?_
      refine J_mono (jg_Op_32 C hp0 (jd jdt_Op_named 6 rfl)) ?_
      refine J_mono (jg_Op_68 C (jkf_1_10 hp0) (jd jdt_Op_named 7 rfl)) ?_
      exact J_some (fun hx => hR (M.1 (jpf a0 10) 2) hx _ _ (jd jdt_Op_named 8 rfl) rfl)
    · refine J_ite (fun h3 => ?_) (fun h3 => ?_)
      · refine J_mono (w_tsw C h3 (jd jdt_Op_named 1 rfl) (by decide) (by decide) rfl rfl) ?_
        refine J_mono (w_aload_n C (jd jdt_Op_named 9 rfl) rfl) ?_
        refine J_mono (jg_Op_36 C hp0 (jd jdt_Op_named 10 rfl)) ?_
        refine J_mono (jg_Op_68 C (jkf_1_11 hp0) (jd jdt_Op_named 11 rfl)) ?_
        exact J_some (fun hx => hR (M.1 (jpf a0 11) 2) hx _ _ (jd jdt_Op_named 12 rfl) rfl)
      · refine J_mono (w_tswd C (jd jdt_Op_named 1 rfl) (fun k9 kA kB => by have kC : k9 = 0 ∨ k9 = 1 ∨ k9 = 2 := (by omega); rcases kC with rfl|rfl|rfl <;> first | exact h1 | exact h2 | exact h3) (by decide) (by decide) rfl) ?_
        refine J_mono (w_iconst_0 C (jd jdt_Op_named 13 rfl)) ?_
        exact J_some (fun hx => hR 0 hx _ _ (jd jdt_Op_named 14 rfl) rfl)
end
theorem C_Op_named (l : Launch) (G : JG) (F : jF G = false) (a0 : Nat) (a1 : Int32) (hp0 : jkd a0 1) (M : SM) {q : Int32} (hf : f_Op_named a0 a1 M = some q) : jMet l jy_Op_named jb_Op_named 2 (some FieldType.int) 1 0 0 G [.ref a0, .int a1] jN0 (jce G M) (some (.int q)) jN0 (jce G M) :=
  j_met jo_Op_named (by decide) (Nat.le_of_ble_eq_true rfl) (fun p e s m args below meth c C hr hm => K_Op_named C F (Nat.le_refl _) a0 a1 hp0 M (fun t => t = q) (fun v hX pc ls hd hn => by cases hX; exact w_iret C hr hn hd) _ hf rfl)
def f_Sp_nameRow (a0 : Int32) (a1 : Int32) : Option Int32 := some ((a0 * 8) + a1)
section
variable {p : Program} {l : Launch} {e : Env} {R : Room} {s : State} {m : MethodId} {args : Array Value} {below : List Frame} {meth : Method} {c : Code} {G : JG} {D : Nat} {Q : State → Prop}
set_option maxHeartbeats 4000000 in
set_option maxRecDepth 20000 in
theorem K_Sp_nameRow (C : jCx p R s m args meth c G jb_Sp_nameRow 2 D "SluicePit") (F : jF G = false) (hD : 1 ≤ D) (a0 : Int32) (a1 : Int32)  (M : SM) (X : Int32 → Prop) (hR : ∀ v, X v → ∀ (pc : Nat) (ls : List (Option Value)), decode jb_Sp_nameRow pc = .ok (.ireturn, 1) → narrow FieldType.int (.int v) = .int v → Wk p l e R s m args below meth c G 2 Q 0 0 jN0 (jce G M) pc ls [.int v]) : J X (f_Sp_nameRow a0 a1) (Wk p l e R s m args below meth c G 2 Q 0 0 jN0 (jce G M) 0 [some (.int a0), some (.int a1)] []) := by
  unfold f_Sp_nameRow
  refine J_mono (w_iload_n C (jd jdt_Sp_nameRow 0 rfl) rfl) ?_
  refine J_mono (w_bipush_8 C (jd jdt_Sp_nameRow 1 rfl)) ?_
  refine J_mono (w_imul C (jd jdt_Sp_nameRow 2 rfl)) ?_
  refine J_mono (w_iload_n C (jd jdt_Sp_nameRow 3 rfl) rfl) ?_
  refine J_mono (w_iadd C (jd jdt_Sp_nameRow 4 rfl)) ?_
  exact J_some (fun hx => hR ((a0 * 8) + a1) hx _ _ (jd jdt_Sp_nameRow 5 rfl) rfl)
end
theorem C_Sp_nameRow (l : Launch) (G : JG) (F : jF G = false) (a0 : Int32) (a1 : Int32)  (M : SM) {q : Int32} (hf : f_Sp_nameRow a0 a1 = some q) : jMet l jy_Sp_nameRow jb_Sp_nameRow 2 (some FieldType.int) 1 0 0 G [.int a0, .int a1] jN0 (jce G M) (some (.int q)) jN0 (jce G M) :=
  j_met jo_Sp_nameRow (by decide) (Nat.le_of_ble_eq_true rfl) (fun p e s m args below meth c C hr hm => K_Sp_nameRow C F (Nat.le_refl _) a0 a1  M (fun t => t = q) (fun v hX pc ls hd hn => by cases hX; exact w_iret C hr hn hd) _ hf rfl)
def f_Sp_cellOf (a0 : Nat) (a1 : Int32) (a2 : Int32) (M : SM) : Option Int32 := if a1 < 0 then (some 0) else (if a1 < (nI (jln a0)) then ((aR a0 a1).bind fun v3 => if a2 < 0 then (some 0) else (if a2 < (nI (jln v3)) then ((aI M v3 a2).bind fun v6 => some v6) else (some 0))) else (some 0))
section
variable {p : Program} {l : Launch} {e : Env} {R : Room} {s : State} {m : MethodId} {args : Array Value} {below : List Frame} {meth : Method} {c : Code} {G : JG} {D : Nat} {Q : State → Prop}
set_option maxHeartbeats 4000000 in
set_option maxRecDepth 20000 in
theorem K_Sp_cellOf (C : jCx p R s m args meth c G jb_Sp_cellOf 4 D "SluicePit") (F : jF G = false) (hD : 1 ≤ D) (a0 : Nat) (a1 : Int32) (a2 : Int32) (hp0 : jkd a0 103) (M : SM) (X : Int32 → Prop) (hR : ∀ v, X v → ∀ (pc : Nat) (ls : List (Option Value)), decode jb_Sp_cellOf pc = .ok (.ireturn, 1) → narrow FieldType.int (.int v) = .int v → Wk p l e R s m args below meth c G 4 Q 0 0 jN0 (jce G M) pc ls [.int v]) : J X (f_Sp_cellOf a0 a1 a2 M) (Wk p l e R s m args below meth c G 4 Q 0 0 jN0 (jce G M) 0 [some (.ref a0), some (.int a1), some (.int a2), none] []) := by
  unfold f_Sp_cellOf
  refine J_mono (w_iload_n C (jd jdt_Sp_cellOf 0 rfl) rfl) ?_
  refine J_br (w_if_lt (y := 0) C (jd jdt_Sp_cellOf 1 rfl) rfl) (fun h1 => J_pos h1 ?_) (fun h1 => J_neg h1 ?_)
  · refine J_mono (w_iconst_0 C (jd jdt_Sp_cellOf 6 rfl)) ?_
    exact J_some (fun hx => hR 0 hx _ _ (jd jdt_Sp_cellOf 7 rfl) rfl)
  · refine J_mono (w_iload_n C (jd jdt_Sp_cellOf 2 rfl) rfl) ?_
    refine J_mono (w_aload_n C (jd jdt_Sp_cellOf 3 rfl) rfl) ?_
    refine J_mono (w_alen C (.inr (.inr (.inr hp0))) (jd jdt_Sp_cellOf 4 rfl)) ?_
    refine J_br (w_icmp_lt C (jd jdt_Sp_cellOf 5 rfl) rfl) (fun h2 => J_pos h2 ?_) (fun h2 => J_neg h2 ?_)
    · refine J_mono (w_aload_n C (jd jdt_Sp_cellOf 8 rfl) rfl) ?_
      refine J_mono (w_iload_n C (jd jdt_Sp_cellOf 9 rfl) rfl) ?_
      refine J_bind (fun v3 hv3 => ?_)
      refine J_mono (w_aald C hp0 hv3 (jd jdt_Sp_cellOf 10 rfl)) ?_
      refine J_mono (w_astore_n (ls' := [some (.ref a0), some (.int a1), some (.int a2), some (.ref v3)]) C (jd jdt_Sp_cellOf 11 rfl) (by decide) rfl rfl) ?_
      refine J_mono (w_aload_n C (jd jdt_Sp_cellOf 12 rfl) rfl) ?_
      refine J_mono (w_ifnull C (jd jdt_Sp_cellOf 13 rfl)) ?_
      refine J_mono (w_iload_n C (jd jdt_Sp_cellOf 14 rfl) rfl) ?_
      refine J_br (w_if_lt (y := 0) C (jd jdt_Sp_cellOf 15 rfl) rfl) (fun h4 => J_pos h4 ?_) (fun h4 => J_neg h4 ?_)
      · refine J_mono (w_iconst_0 C (jd jdt_Sp_cellOf 24 rfl)) ?_
        exact J_some (fun hx => hR 0 hx _ _ (jd jdt_Sp_cellOf 25 rfl) rfl)
      · refine J_mono (w_iload_n C (jd jdt_Sp_cellOf 16 rfl) rfl) ?_
        refine J_mono (w_aload_n C (jd jdt_Sp_cellOf 17 rfl) rfl) ?_
        refine J_mono (w_alen C (.inl (aR_kd hp0 hv3)) (jd jdt_Sp_cellOf 18 rfl)) ?_
        refine J_br (w_icmp_ge C (jd jdt_Sp_cellOf 19 rfl) rfl) (fun h5 => J_pos h5 ?_) (fun h5 => J_neg h5 ?_)
        · refine J_mono (w_aload_n C (jd jdt_Sp_cellOf 20 rfl) rfl) ?_
          refine J_mono (w_iload_n C (jd jdt_Sp_cellOf 21 rfl) rfl) ?_
          refine J_bind (fun v6 hv6 => ?_)
          refine J_mono (w_iald C (aR_kd hp0 hv3) hv6 (jd jdt_Sp_cellOf 22 rfl)) ?_
          refine J_mono (w_goto C (jd jdt_Sp_cellOf 23 rfl) rfl) ?_
          exact J_some (fun hx => hR v6 hx _ _ (jd jdt_Sp_cellOf 25 rfl) rfl)
        · refine J_mono (w_iconst_0 C (jd jdt_Sp_cellOf 24 rfl)) ?_
          exact J_some (fun hx => hR 0 hx _ _ (jd jdt_Sp_cellOf 25 rfl) rfl)
    · refine J_mono (w_iconst_0 C (jd jdt_Sp_cellOf 6 rfl)) ?_
      exact J_some (fun hx => hR 0 hx _ _ (jd jdt_Sp_cellOf 7 rfl) rfl)
end
theorem C_Sp_cellOf (l : Launch) (G : JG) (F : jF G = false) (a0 : Nat) (a1 : Int32) (a2 : Int32) (hp0 : jkd a0 103) (M : SM) {q : Int32} (hf : f_Sp_cellOf a0 a1 a2 M = some q) : jMet l jy_Sp_cellOf jb_Sp_cellOf 4 (some FieldType.int) 1 0 0 G [.ref a0, .int a1, .int a2] jN0 (jce G M) (some (.int q)) jN0 (jce G M) :=
  j_met jo_Sp_cellOf (by decide) (Nat.le_of_ble_eq_true rfl) (fun p e s m args below meth c C hr hm => K_Sp_cellOf C F (Nat.le_refl _) a0 a1 a2 hp0 M (fun t => t = q) (fun v hX pc ls hd hn => by cases hX; exact w_iret C hr hn hd) _ hf rfl)
def lp_Or_isName_2 (y0 : Nat) (y1 : Int32) (M : SM) : Nat → Int32 → Option ((Unit) ⊕ Int32)
  | 0, _ => none
  | n + 1, x2 => if x2 < 6 then ((f_Sp_cellOf (jpf (jop (M.1 y0 2)) 9) y1 x2 M).bind fun q2 => (f_Sp_at (jpf (jpf y0 0) 2) x2 M).bind fun q3 => if q2 = q3 then (lp_Or_isName_2 y0 y1 M n (x2 + 1)) else (some (.inr 0))) else (some (.inl ()))
def f_Or_isName (a0 : Nat) (a1 : Int32) (M : SM) : Option Int32 := jsb (lp_Or_isName_2 a0 a1 M jfuel 0) id fun q5 => some 1
section
variable {p : Program} {l : Launch} {e : Env} {R : Room} {s : State} {m : MethodId} {args : Array Value} {below : List Frame} {meth : Method} {c : Code} {G : JG} {D : Nat} {Q : State → Prop}
set_option maxHeartbeats 4000000 in
set_option maxRecDepth 20000 in
theorem K_Or_isName (C : jCx p R s m args meth c G jb_Or_isName 3 D "SluicePit$OperaReader") (F : jF G = false) (hD : 2 ≤ D) (a0 : Nat) (a1 : Int32) (hp0 : jkd a0 2) (M : SM) (X : Int32 → Prop) (hR : ∀ v, X v → ∀ (pc : Nat) (ls : List (Option Value)), decode jb_Or_isName pc = .ok (.ireturn, 1) → narrow FieldType.boolean (.int v) = .int v → Wk p l e R s m args below meth c G 3 Q 0 0 jN0 (jce G M) pc ls [.int v]) : J X (f_Or_isName a0 a1 M) (Wk p l e R s m args below meth c G 3 Q 0 0 jN0 (jce G M) 0 [some (.ref a0), some (.int a1), none] []) := by
  unfold f_Or_isName
  refine J_mono (w_iconst_0 C (jd jdt_Or_isName 0 rfl)) ?_
  refine J_mono (w_istore_n (ls' := [some (.ref a0), some (.int a1), some (.int 0)]) C (jd jdt_Or_isName 1 rfl) (by decide) rfl rfl) ?_
  have L2 : ∀ (y0 : Nat) (y1 : Int32) (hy0 : jkd y0 2) (n : Nat) (x2 : Int32), J (Sum.elim (fun (q5 : Unit) => Wk p l e R s m args below meth c G 3 Q 0 0 jN0 (jce G M) 42 [none, none, none] []) X) (lp_Or_isName_2 y0 y1 M n x2) (Wk p l e R s m args below meth c G 3 Q 0 0 jN0 (jce G M) 2 [some (.ref y0), some (.int y1), some (.int x2)] []) := by
    intro y0 y1 hy0 n
    induction n with
    | zero => intro x2; exact J_none
    | succ n ih =>
      intro x2
      unfold lp_Or_isName_2
      refine J_mono (w_iload_n C (jd jdt_Or_isName 2 rfl) rfl) ?_
      refine J_mono (w_bipush_6 C (jd jdt_Or_isName 3 rfl)) ?_
      refine J_br (w_icmp_ge C (jd jdt_Or_isName 4 rfl) rfl) (fun h1 => J_pos h1 ?_) (fun h1 => J_neg h1 ?_)
      · refine J_mono (w_aload_n C (jd jdt_Or_isName 5 rfl) rfl) ?_
        refine J_mono (jg_Or_19 C hy0 (jd jdt_Or_isName 6 rfl)) ?_
        refine J_mono (jg_Or_208 C (jop_kd _) (jd jdt_Or_isName 7 rfl)) ?_
        refine J_mono (w_iload_n C (jd jdt_Or_isName 8 rfl) rfl) ?_
        refine J_mono (w_iload_n C (jd jdt_Or_isName 9 rfl) rfl) ?_
        refine J_bind (fun q2 hq2 => ?_)
        refine J_mono (jc_Or_222 C (C_Sp_cellOf l G F (jpf (jop (M.1 y0 2)) 9) y1 x2 (jkf_1_9 (jop_kd _)) M hq2) rfl (Nat.le_trans (Nat.le_of_ble_eq_true rfl : 1 + 1 ≤ 2) hD) (jd jdt_Or_isName 10 rfl)) ?_
        refine J_mono (w_aload_n C (jd jdt_Or_isName 11 rfl) rfl) ?_
        refine J_mono (jg_Or_9 C hy0 (jd jdt_Or_isName 12 rfl)) ?_
        refine J_mono (jg_Or_212 C (jkf_2_0 hy0) (jd jdt_Or_isName 13 rfl)) ?_
        refine J_mono (w_iload_n C (jd jdt_Or_isName 14 rfl) rfl) ?_
        refine J_bind (fun q3 hq3 => ?_)
        refine J_mono (jc_Or_180 C (C_Sp_at l G F (jpf (jpf y0 0) 2) x2 (jkf_7_2 (jkf_2_0 hy0)) M hq3) rfl (Nat.le_trans (Nat.le_of_ble_eq_true rfl : 1 + 1 ≤ 2) hD) (jd jdt_Or_isName 15 rfl)) ?_
        refine J_br (w_icmp_eq C (jd jdt_Or_isName 16 rfl) rfl) (fun h4 => J_pos h4 ?_) (fun h4 => J_neg h4 ?_)
        · refine J_mono (w_iinc (v := x2 + 1) (ls' := [some (.ref y0), some (.int y1), some (.int (x2 + 1))]) C (jd jdt_Or_isName 19 rfl) rfl rfl (by decide) rfl rfl) ?_
          refine J_mono (w_goto C (jd jdt_Or_isName 20 rfl) rfl) ?_
          exact J_sub (ih (x2 + 1)) ⟨rfl, rfl, rfl, trivial⟩
        · refine J_mono (w_iconst_0 C (jd jdt_Or_isName 17 rfl)) ?_
          exact J_some (fun hx => hR 0 hx _ _ (jd jdt_Or_isName 18 rfl) rfl)
      · exact J_some (fun hx => Wk_sb hx trivial)
  refine J_sb (fun (q5 : Unit) => Wk p l e R s m args below meth c G 3 Q 0 0 jN0 (jce G M) 42 [none, none, none] []) (J_sub (L2 a0 a1 hp0 jfuel 0) ⟨rfl, rfl, rfl, trivial⟩) (fun q5 => ?_)
  refine J_mono (w_iconst_1 C (jd jdt_Or_isName 21 rfl)) ?_
  exact J_some (fun hx => hR 1 hx _ _ (jd jdt_Or_isName 22 rfl) rfl)
end
theorem C_Or_isName (l : Launch) (G : JG) (F : jF G = false) (a0 : Nat) (a1 : Int32) (hp0 : jkd a0 2) (M : SM) {q : Int32} (hf : f_Or_isName a0 a1 M = some q) : jMet l jy_Or_isName jb_Or_isName 3 (some FieldType.boolean) 2 0 0 G [.ref a0, .int a1] jN0 (jce G M) (some (.int q)) jN0 (jce G M) :=
  j_met jo_Or_isName (by decide) (Nat.le_of_ble_eq_true rfl) (fun p e s m args below meth c C hr hm => K_Or_isName C F (Nat.le_refl _) a0 a1 hp0 M (fun t => t = q) (fun v hX pc ls hd hn => by cases hX; exact w_iret C hr hn hd) _ hf rfl)
def lp_Or_isThere_9 (y0 : Nat) (y1 : Int32) (M : SM) : Nat → Int32 → Option ((Unit) ⊕ Int32)
  | 0, _ => none
  | n + 1, x2 => (f_Op_named (jop (M.1 y0 2)) y1 M).bind fun q2 => if x2 < q2 then ((f_Sp_nameRow y1 x2).bind fun q4 => (f_Or_isName y0 q4 M).bind fun q5 => if q5 = 0 then (lp_Or_isThere_9 y0 y1 M n (x2 + 1)) else (some (.inr 1))) else (some (.inl ()))
def lp_Or_isThere_2 (y0 : Nat) (M : SM) : Nat → Int32 → Option ((Unit) ⊕ Int32)
  | 0, _ => none
  | n + 1, x1 => if x1 < 3 then (jsb (lp_Or_isThere_9 y0 x1 M jfuel 0) Sum.inr fun q7 => lp_Or_isThere_2 y0 M n (x1 + 1)) else (some (.inl ()))
def f_Or_isThere (a0 : Nat) (M : SM) : Option Int32 := jsb (lp_Or_isThere_2 a0 M jfuel 0) id fun q8 => some 0
section
variable {p : Program} {l : Launch} {e : Env} {R : Room} {s : State} {m : MethodId} {args : Array Value} {below : List Frame} {meth : Method} {c : Code} {G : JG} {D : Nat} {Q : State → Prop}
set_option maxHeartbeats 4000000 in
set_option maxRecDepth 20000 in
theorem K_Or_isThere (C : jCx p R s m args meth c G jb_Or_isThere 3 D "SluicePit$OperaReader") (F : jF G = false) (hD : 3 ≤ D) (a0 : Nat) (hp0 : jkd a0 2) (M : SM) (X : Int32 → Prop) (hR : ∀ v, X v → ∀ (pc : Nat) (ls : List (Option Value)), decode jb_Or_isThere pc = .ok (.ireturn, 1) → narrow FieldType.boolean (.int v) = .int v → Wk p l e R s m args below meth c G 3 Q 0 0 jN0 (jce G M) pc ls [.int v]) : J X (f_Or_isThere a0 M) (Wk p l e R s m args below meth c G 3 Q 0 0 jN0 (jce G M) 0 [some (.ref a0), none, none] []) := by
  unfold f_Or_isThere
  refine J_mono (w_iconst_0 C (jd jdt_Or_isThere 0 rfl)) ?_
  refine J_mono (w_istore_n (ls' := [some (.ref a0), some (.int 0), none]) C (jd jdt_Or_isThere 1 rfl) (by decide) rfl rfl) ?_
  have L2 : ∀ (y0 : Nat) (hy0 : jkd y0 2) (n : Nat) (x1 : Int32), J (Sum.elim (fun (q8 : Unit) => Wk p l e R s m args below meth c G 3 Q 0 0 jN0 (jce G M) 47 [none, none, none] []) X) (lp_Or_isThere_2 y0 M n x1) (Wk p l e R s m args below meth c G 3 Q 0 0 jN0 (jce G M) 2 [some (.ref y0), some (.int x1), none] []) := by
    intro y0 hy0 n
    induction n with
    | zero => intro x1; exact J_none
    | succ n ih =>
      intro x1
      unfold lp_Or_isThere_2
      refine J_mono (w_iload_n C (jd jdt_Or_isThere 2 rfl) rfl) ?_
      refine J_mono (w_iconst_3 C (jd jdt_Or_isThere 3 rfl)) ?_
      refine J_br (w_icmp_ge C (jd jdt_Or_isThere 4 rfl) rfl) (fun h1 => J_pos h1 ?_) (fun h1 => J_neg h1 ?_)
      · refine J_mono (w_iconst_0 C (jd jdt_Or_isThere 5 rfl)) ?_
        refine J_mono (w_istore_n (ls' := [some (.ref y0), some (.int x1), some (.int 0)]) C (jd jdt_Or_isThere 6 rfl) (by decide) rfl rfl) ?_
        have L9 : ∀ (y0 : Nat) (y1 : Int32) (hy0 : jkd y0 2) (n : Nat) (x2 : Int32), J (Sum.elim (fun (q7 : Unit) => Wk p l e R s m args below meth c G 3 Q 0 0 jN0 (jce G M) 41 [some (.ref y0), some (.int y1), none] []) X) (lp_Or_isThere_9 y0 y1 M n x2) (Wk p l e R s m args below meth c G 3 Q 0 0 jN0 (jce G M) 9 [some (.ref y0), some (.int y1), some (.int x2)] []) := by
          intro y0 y1 hy0 n
          induction n with
          | zero => intro x2; exact J_none
          | succ n ih =>
            intro x2
            unfold lp_Or_isThere_9
            refine J_mono (w_iload_n C (jd jdt_Or_isThere 7 rfl) rfl) ?_
            refine J_mono (w_aload_n C (jd jdt_Or_isThere 8 rfl) rfl) ?_
            refine J_mono (jg_Or_19 C hy0 (jd jdt_Or_isThere 9 rfl)) ?_
            refine J_mono (w_iload_n C (jd jdt_Or_isThere 10 rfl) rfl) ?_
            refine J_bind (fun q2 hq2 => ?_)
            refine J_mono (jc_Or_201 C (jop_kd _) (C_Op_named l G F (jop (M.1 y0 2)) y1 (jop_kd _) M hq2) rfl (Nat.le_trans (Nat.le_of_ble_eq_true rfl : 1 + 1 ≤ 3) hD) (jd jdt_Or_isThere 11 rfl)) ?_
            refine J_br (w_icmp_ge C (jd jdt_Or_isThere 12 rfl) rfl) (fun h3 => J_pos h3 ?_) (fun h3 => J_neg h3 ?_)
            · refine J_mono (w_aload_n C (jd jdt_Or_isThere 13 rfl) rfl) ?_
              refine J_mono (w_iload_n C (jd jdt_Or_isThere 14 rfl) rfl) ?_
              refine J_mono (w_iload_n C (jd jdt_Or_isThere 15 rfl) rfl) ?_
              refine J_bind (fun q4 hq4 => ?_)
              refine J_mono (jc_Or_205 C (C_Sp_nameRow l G F y1 x2 M hq4) rfl (Nat.le_trans (Nat.le_of_ble_eq_true rfl : 1 + 1 ≤ 3) hD) (jd jdt_Or_isThere 16 rfl)) ?_
              refine J_bind (fun q5 hq5 => ?_)
              refine J_mono (jc_Or_219 C hy0 (C_Or_isName l G F y0 q4 hy0 M hq5) rfl (Nat.le_trans (Nat.le_of_ble_eq_true rfl : 2 + 1 ≤ 3) hD) (jd jdt_Or_isThere 17 rfl)) ?_
              refine J_br (w_if_eq (y := 0) C (jd jdt_Or_isThere 18 rfl) rfl) (fun h6 => J_pos h6 ?_) (fun h6 => J_neg h6 ?_)
              · refine J_mono (w_iinc (v := x2 + 1) (ls' := [some (.ref y0), some (.int y1), some (.int (x2 + 1))]) C (jd jdt_Or_isThere 21 rfl) rfl rfl (by decide) rfl rfl) ?_
                refine J_mono (w_goto C (jd jdt_Or_isThere 22 rfl) rfl) ?_
                exact J_sub (ih (x2 + 1)) ⟨rfl, rfl, rfl, trivial⟩
              · refine J_mono (w_iconst_1 C (jd jdt_Or_isThere 19 rfl)) ?_
                exact J_some (fun hx => hR 1 hx _ _ (jd jdt_Or_isThere 20 rfl) rfl)
            · exact J_some (fun hx => Wk_sb hx ⟨rfl, rfl, trivial⟩)
        refine J_sb (fun (q7 : Unit) => Wk p l e R s m args below meth c G 3 Q 0 0 jN0 (jce G M) 41 [some (.ref y0), some (.int x1), none] []) (J_sub (L9 y0 x1 hy0 jfuel 0) ⟨rfl, rfl, rfl, trivial⟩) (fun q7 => ?_)
        refine J_mono (w_iinc (v := x1 + 1) (ls' := [some (.ref y0), some (.int (x1 + 1)), none]) C (jd jdt_Or_isThere 23 rfl) rfl rfl (by decide) rfl rfl) ?_
        refine J_mono (w_goto C (jd jdt_Or_isThere 24 rfl) rfl) ?_
        exact J_sub (ih (x1 + 1)) ⟨rfl, rfl, trivial⟩
      · exact J_some (fun hx => Wk_sb hx trivial)
  refine J_sb (fun (q8 : Unit) => Wk p l e R s m args below meth c G 3 Q 0 0 jN0 (jce G M) 47 [none, none, none] []) (J_sub (L2 a0 hp0 jfuel 0) ⟨rfl, rfl, trivial⟩) (fun q8 => ?_)
  refine J_mono (w_iconst_0 C (jd jdt_Or_isThere 25 rfl)) ?_
  exact J_some (fun hx => hR 0 hx _ _ (jd jdt_Or_isThere 26 rfl) rfl)
end
theorem C_Or_isThere (l : Launch) (G : JG) (F : jF G = false) (a0 : Nat) (hp0 : jkd a0 2) (M : SM) {q : Int32} (hf : f_Or_isThere a0 M = some q) : jMet l jy_Or_isThere jb_Or_isThere 3 (some FieldType.boolean) 3 0 0 G [.ref a0] jN0 (jce G M) (some (.int q)) jN0 (jce G M) :=
  j_met jo_Or_isThere (by decide) (Nat.le_of_ble_eq_true rfl) (fun p e s m args below meth c C hr hm => K_Or_isThere C F (Nat.le_refl _) a0 hp0 M (fun t => t = q) (fun v hX pc ls hd hn => by cases hX; exact w_iret C hr hn hd) _ hf rfl)
def f_Sp_putCell (a0 : Nat) (a1 : Int32) (a2 : Int32) (a3 : Int32) (M : SM) : Option SM := if a1 < 0 then (some M) else (if a1 < (nI (jln a0)) then ((aR a0 a1).bind fun v3 => if a2 < 0 then (some M) else (if a2 < (nI (jln v3)) then ((aS M v3 a2 a3).bind fun M6 => some M6) else (some M))) else (some M))
section
variable {p : Program} {l : Launch} {e : Env} {R : Room} {s : State} {m : MethodId} {args : Array Value} {below : List Frame} {meth : Method} {c : Code} {G : JG} {D : Nat} {Q : State → Prop}
set_option maxHeartbeats 4000000 in
set_option maxRecDepth 20000 in
theorem K_Sp_putCell (C : jCx p R s m args meth c G jb_Sp_putCell 5 D "SluicePit") (F : jF G = false) (hD : 1 ≤ D) (a0 : Nat) (a1 : Int32) (a2 : Int32) (a3 : Int32) (hp0 : jkd a0 103) (M : SM) (X : SM → Prop) (hR : ∀ M', X M' → ∀ (pc : Nat) (ls : List (Option Value)), decode jb_Sp_putCell pc = .ok (.return_, 1) → Wk p l e R s m args below meth c G 5 Q 0 0 jN0 (jce G M') pc ls []) : J X (f_Sp_putCell a0 a1 a2 a3 M) (Wk p l e R s m args below meth c G 5 Q 0 0 jN0 (jce G M) 0 [some (.ref a0), some (.int a1), some (.int a2), some (.int a3), none] []) := by
  unfold f_Sp_putCell
  refine J_mono (w_iload_n C (jd jdt_Sp_putCell 0 rfl) rfl) ?_
  refine J_br (w_if_lt (y := 0) C (jd jdt_Sp_putCell 1 rfl) rfl) (fun h1 => J_pos h1 ?_) (fun h1 => J_neg h1 ?_)
  · exact J_some (fun hx => hR M hx _ _ (jd jdt_Sp_putCell 6 rfl))
  · refine J_mono (w_iload_n C (jd jdt_Sp_putCell 2 rfl) rfl) ?_
    refine J_mono (w_aload_n C (jd jdt_Sp_putCell 3 rfl) rfl) ?_
    refine J_mono (w_alen C (.inr (.inr (.inr hp0))) (jd jdt_Sp_putCell 4 rfl)) ?_
    refine J_br (w_icmp_lt C (jd jdt_Sp_putCell 5 rfl) rfl) (fun h2 => J_pos h2 ?_) (fun h2 => J_neg h2 ?_)
    · refine J_mono (w_aload_n C (jd jdt_Sp_putCell 7 rfl) rfl) ?_
      refine J_mono (w_iload_n C (jd jdt_Sp_putCell 8 rfl) rfl) ?_
      refine J_bind (fun v3 hv3 => ?_)
      refine J_mono (w_aald C hp0 hv3 (jd jdt_Sp_putCell 9 rfl)) ?_
      refine J_mono (w_astore (ls' := [some (.ref a0), some (.int a1), some (.int a2), some (.int a3), some (.ref v3)]) C (jd jdt_Sp_putCell 10 rfl) (by decide) rfl rfl) ?_
      refine J_mono (w_aload C (jd jdt_Sp_putCell 11 rfl) rfl) ?_
      refine J_mono (w_ifnull C (jd jdt_Sp_putCell 12 rfl)) ?_
      refine J_mono (w_iload_n C (jd jdt_Sp_putCell 13 rfl) rfl) ?_
      refine J_br (w_if_lt (y := 0) C (jd jdt_Sp_putCell 14 rfl) rfl) (fun h4 => J_pos h4 ?_) (fun h4 => J_neg h4 ?_)
      · exact J_some (fun hx => hR M hx _ _ (jd jdt_Sp_putCell 23 rfl))
      · refine J_mono (w_iload_n C (jd jdt_Sp_putCell 15 rfl) rfl) ?_
        refine J_mono (w_aload C (jd jdt_Sp_putCell 16 rfl) rfl) ?_
        refine J_mono (w_alen C (.inl (aR_kd hp0 hv3)) (jd jdt_Sp_putCell 17 rfl)) ?_
        refine J_br (w_icmp_ge C (jd jdt_Sp_putCell 18 rfl) rfl) (fun h5 => J_pos h5 ?_) (fun h5 => J_neg h5 ?_)
        · refine J_mono (w_aload C (jd jdt_Sp_putCell 19 rfl) rfl) ?_
          refine J_mono (w_iload_n C (jd jdt_Sp_putCell 20 rfl) rfl) ?_
          refine J_mono (w_iload_n C (jd jdt_Sp_putCell 21 rfl) rfl) ?_
          refine J_bind (fun M6 hM6 => ?_)
          refine J_mono (w_iast C F (aR_kd hp0 hv3) hM6 (jd jdt_Sp_putCell 22 rfl)) ?_
          exact J_some (fun hx => hR M6 hx _ _ (jd jdt_Sp_putCell 23 rfl))
        · exact J_some (fun hx => hR M hx _ _ (jd jdt_Sp_putCell 23 rfl))
    · exact J_some (fun hx => hR M hx _ _ (jd jdt_Sp_putCell 6 rfl))
end
theorem C_Sp_putCell (l : Launch) (G : JG) (F : jF G = false) (a0 : Nat) (a1 : Int32) (a2 : Int32) (a3 : Int32) (hp0 : jkd a0 103) (M : SM) {q : SM} (hf : f_Sp_putCell a0 a1 a2 a3 M = some q) : jMet l jy_Sp_putCell jb_Sp_putCell 5 none 1 0 0 G [.ref a0, .int a1, .int a2, .int a3] jN0 (jce G M) none jN0 (jce G q) :=
  j_met jo_Sp_putCell (by decide) (Nat.le_of_ble_eq_true rfl) (fun p e s m args below meth c C hr hm => K_Sp_putCell C F (Nat.le_refl _) a0 a1 a2 a3 hp0 M (fun t => t = q) (fun M' hX pc ls hd => by cases hX; exact w_vret C hr hd) _ hf rfl)
def lp_Or_takeName_99 (y0 : Nat) (y2 : Int32) : Nat → Int32 → SM → Option (SM)
  | 0, _, _ => none
  | n + 1, x3, M => if x3 < 6 then ((f_Sp_at (jpf (jpf y0 0) 2) x3 M).bind fun q16 => (f_Sp_putCell (jpf (jop (M.1 y0 2)) 9) y2 x3 q16 M).bind fun q17 => lp_Or_takeName_99 y0 y2 n (x3 + 1) q17) else (some M)
def f_Or_takeName (a0 : Nat) (a1 : Int32) (M : SM) : Option (Int32 × SM) := (f_Re_isSomeWord (jpf a0 0) M).bind fun q1 => if q1 = 0 then ((f_Re_refuse (jpf a0 0) M).bind fun q3 => (bchk q3.1).bind fun b4 => some (b4, q3.2)) else ((f_Re_wordAmong (jpf a0 0) 1003 M).bind fun q5 => if q5 < 0 then ((f_Re_length (jpf a0 0) M).bind fun q7 => if 6 < q7 then ((f_Re_fail (jpf a0 0) 1 ((M.1 (jpf a0 0) 3) + 6) M).bind fun q9 => (bchk q9.1).bind fun b10 => some (b10, q9.2)) else ((f_Or_isThere a0 M).bind fun q11 => if q11 = 0 then ((f_Op_named (jop (M.1 a0 2)) a1 M).bind fun q13 => (f_Sp_nameRow a1 q13).bind fun q14 => (lp_Or_takeName_99 a0 q14 jfuel 0 M).bind fun q18 => (f_Re_step (jpf a0 0) q18).bind fun q19 => some (1, q19)) else ((f_Re_fail (jpf a0 0) 3 (M.1 (jpf a0 0) 3) M).bind fun q20 => (bchk q20.1).bind fun b21 => some (b21, q20.2)))) else ((f_Re_refuse (jpf a0 0) M).bind fun q22 => (bchk q22.1).bind fun b23 => some (b23, q22.2)))
section
variable {p : Program} {l : Launch} {e : Env} {R : Room} {s : State} {m : MethodId} {args : Array Value} {below : List Frame} {meth : Method} {c : Code} {G : JG} {D : Nat} {Q : State → Prop}
set_option maxHeartbeats 4000000 in
set_option maxRecDepth 20000 in
theorem K_Or_takeName (C : jCx p R s m args meth c G jb_Or_takeName 4 D "SluicePit$OperaReader") (F : jF G = false) (hD : 9 ≤ D) (a0 : Nat) (a1 : Int32) (hp0 : jkd a0 2) (M : SM) (X : (Int32 × SM) → Prop) (hR : ∀ v M', X (v, M') → ∀ (pc : Nat) (ls : List (Option Value)), decode jb_Or_takeName pc = .ok (.ireturn, 1) → narrow FieldType.boolean (.int v) = .int v → Wk p l e R s m args below meth c G 4 Q 0 0 jN0 (jce G M') pc ls [.int v]) : J X (f_Or_takeName a0 a1 M) (Wk p l e R s m args below meth c G 4 Q 0 0 jN0 (jce G M) 0 [some (.ref a0), some (.int a1), none, none] []) := by
  unfold f_Or_takeName
  refine J_mono (w_aload_n C (jd jdt_Or_takeName 0 rfl) rfl) ?_
  refine J_mono (jg_Or_9 C hp0 (jd jdt_Or_takeName 1 rfl)) ?_
  refine J_bind (fun q1 hq1 => ?_)
  refine J_mono (jc_Or_190 C (jkf_2_0 hp0) (C_Re_isSomeWord l G F (jpf a0 0) (jkf_2_0 hp0) M hq1) rfl (Nat.le_trans (Nat.le_of_ble_eq_true rfl : 1 + 1 ≤ 9) hD) (jd jdt_Or_takeName 2 rfl)) ?_
  refine J_br (w_if_eq (y := 0) C (jd jdt_Or_takeName 3 rfl) rfl) (fun h2 => J_pos h2 ?_) (fun h2 => J_neg h2 ?_)
  · refine J_mono (w_aload_n C (jd jdt_Or_takeName 9 rfl) rfl) ?_
    refine J_mono (jg_Or_9 C hp0 (jd jdt_Or_takeName 10 rfl)) ?_
    refine J_bind (fun q3 hq3 => ?_)
    refine J_mono (jc_Or_74 C (jkf_2_0 hp0) (C_Re_refuse l G F (jpf a0 0) (jkf_2_0 hp0) M hq3) rfl (Nat.le_trans (Nat.le_of_ble_eq_true rfl : 2 + 1 ≤ 9) hD) (jd jdt_Or_takeName 11 rfl)) ?_
    refine J_bind (fun b4 hb4 => ?_)
    obtain rfl := bchk_e hb4
    exact J_some (fun hx => hR _ q3.2 hx _ _ (jd jdt_Or_takeName 12 rfl) (bchk_n hb4))
  · refine J_mono (w_aload_n C (jd jdt_Or_takeName 4 rfl) rfl) ?_
    refine J_mono (jg_Or_9 C hp0 (jd jdt_Or_takeName 5 rfl)) ?_
    refine J_mono (w_ldcS (i := 3) C rfl (jd jdt_Or_takeName 6 rfl)) ?_
    refine J_bind (fun q5 hq5 => ?_)
    refine J_mono (jc_Or_70 C (jkf_2_0 hp0) (C_Re_wordAmong l G F (jpf a0 0) 1003 (jkf_2_0 hp0) (jks_of 3) M hq5) rfl (Nat.le_trans (Nat.le_of_ble_eq_true rfl : 8 + 1 ≤ 9) hD) (jd jdt_Or_takeName 7 rfl)) ?_
    refine J_br (w_if_lt (y := 0) C (jd jdt_Or_takeName 8 rfl) rfl) (fun h6 => J_pos h6 ?_) (fun h6 => J_neg h6 ?_)
    · refine J_mono (w_aload_n C (jd jdt_Or_takeName 13 rfl) rfl) ?_
      refine J_mono (jg_Or_9 C hp0 (jd jdt_Or_takeName 14 rfl)) ?_
      refine J_bind (fun q7 hq7 => ?_)
      refine J_mono (jc_Or_195 C (jkf_2_0 hp0) (C_Re_length l G F (jpf a0 0) (jkf_2_0 hp0) M hq7) rfl (Nat.le_trans (Nat.le_of_ble_eq_true rfl : 1 + 1 ≤ 9) hD) (jd jdt_Or_takeName 15 rfl)) ?_
      refine J_mono (w_bipush_6 C (jd jdt_Or_takeName 16 rfl)) ?_
      refine J_br (w_icmp_le C (jd jdt_Or_takeName 17 rfl) rfl) (fun h8 => J_pos h8 ?_) (fun h8 => J_neg h8 ?_)
      · refine J_mono (w_aload_n C (jd jdt_Or_takeName 18 rfl) rfl) ?_
        refine J_mono (jg_Or_9 C hp0 (jd jdt_Or_takeName 19 rfl)) ?_
        refine J_mono (w_iconst_1 C (jd jdt_Or_takeName 20 rfl)) ?_
        refine J_mono (w_aload_n C (jd jdt_Or_takeName 21 rfl) rfl) ?_
        refine J_mono (jg_Or_9 C hp0 (jd jdt_Or_takeName 22 rfl)) ?_
        refine J_mono (jg_Or_48 C (jkf_2_0 hp0) (jd jdt_Or_takeName 23 rfl)) ?_
        refine J_mono (w_bipush_6 C (jd jdt_Or_takeName 24 rfl)) ?_
        refine J_mono (w_iadd C (jd jdt_Or_takeName 25 rfl)) ?_
        refine J_bind (fun q9 hq9 => ?_)
        refine J_mono (jc_Or_51 C (jkf_2_0 hp0) (C_Re_fail l G F (jpf a0 0) 1 ((M.1 (jpf a0 0) 3) + 6) (jkf_2_0 hp0) M hq9) rfl (Nat.le_trans (Nat.le_of_ble_eq_true rfl : 1 + 1 ≤ 9) hD) (jd jdt_Or_takeName 26 rfl)) ?_
        refine J_bind (fun b10 hb10 => ?_)
        obtain rfl := bchk_e hb10
        exact J_some (fun hx => hR _ q9.2 hx _ _ (jd jdt_Or_takeName 27 rfl) (bchk_n hb10))
      · refine J_mono (w_aload_n C (jd jdt_Or_takeName 28 rfl) rfl) ?_
        refine J_bind (fun q11 hq11 => ?_)
        refine J_mono (jc_Or_198 C hp0 (C_Or_isThere l G F a0 hp0 M hq11) rfl (Nat.le_trans (Nat.le_of_ble_eq_true rfl : 3 + 1 ≤ 9) hD) (jd jdt_Or_takeName 29 rfl)) ?_
        refine J_br (w_if_eq (y := 0) C (jd jdt_Or_takeName 30 rfl) rfl) (fun h12 => J_pos h12 ?_) (fun h12 => J_neg h12 ?_)
        · refine J_mono (w_iload_n C (jd jdt_Or_takeName 39 rfl) rfl) ?_
          refine J_mono (w_aload_n C (jd jdt_Or_takeName 40 rfl) rfl) ?_
          refine J_mono (jg_Or_19 C hp0 (jd jdt_Or_takeName 41 rfl)) ?_
          refine J_mono (w_iload_n C (jd jdt_Or_takeName 42 rfl) rfl) ?_
          refine J_bind (fun q13 hq13 => ?_)
          refine J_mono (jc_Or_201 C (jop_kd _) (C_Op_named l G F (jop (M.1 a0 2)) a1 (jop_kd _) M hq13) rfl (Nat.le_trans (Nat.le_of_ble_eq_true rfl : 1 + 1 ≤ 9) hD) (jd jdt_Or_takeName 43 rfl)) ?_
          refine J_bind (fun q14 hq14 => ?_)
          refine J_mono (jc_Or_205 C (C_Sp_nameRow l G F a1 q13 M hq14) rfl (Nat.le_trans (Nat.le_of_ble_eq_true rfl : 1 + 1 ≤ 9) hD) (jd jdt_Or_takeName 44 rfl)) ?_
          refine J_mono (w_istore_n (ls' := [some (.ref a0), some (.int a1), some (.int q14), none]) C (jd jdt_Or_takeName 45 rfl) (by decide) rfl rfl) ?_
          refine J_mono (w_iconst_0 C (jd jdt_Or_takeName 46 rfl)) ?_
          refine J_mono (w_istore_n (ls' := [some (.ref a0), some (.int a1), some (.int q14), some (.int 0)]) C (jd jdt_Or_takeName 47 rfl) (by decide) rfl rfl) ?_
          have L99 : ∀ (y0 : Nat) (y2 : Int32) (hy0 : jkd y0 2) (n : Nat) (x3 : Int32) (M : SM), J (fun (q18 : SM) => Wk p l e R s m args below meth c G 4 Q 0 0 jN0 (jce G q18) 134 [some (.ref y0), none, none, none] []) (lp_Or_takeName_99 y0 y2 n x3 M) (Wk p l e R s m args below meth c G 4 Q 0 0 jN0 (jce G M) 99 [some (.ref y0), none, some (.int y2), some (.int x3)] []) := by
            intro y0 y2 hy0 n
            induction n with
            | zero => intro x3 M; exact J_none
            | succ n ih =>
              intro x3 M
              unfold lp_Or_takeName_99
              refine J_mono (w_iload_n C (jd jdt_Or_takeName 48 rfl) rfl) ?_
              refine J_mono (w_bipush_6 C (jd jdt_Or_takeName 49 rfl)) ?_
              refine J_br (w_icmp_ge C (jd jdt_Or_takeName 50 rfl) rfl) (fun h15 => J_pos h15 ?_) (fun h15 => J_neg h15 ?_)
              · refine J_mono (w_aload_n C (jd jdt_Or_takeName 51 rfl) rfl) ?_
                refine J_mono (jg_Or_19 C hy0 (jd jdt_Or_takeName 52 rfl)) ?_
                refine J_mono (jg_Or_208 C (jop_kd _) (jd jdt_Or_takeName 53 rfl)) ?_
                refine J_mono (w_iload_n C (jd jdt_Or_takeName 54 rfl) rfl) ?_
                refine J_mono (w_iload_n C (jd jdt_Or_takeName 55 rfl) rfl) ?_
                refine J_mono (w_aload_n C (jd jdt_Or_takeName 56 rfl) rfl) ?_
                refine J_mono (jg_Or_9 C hy0 (jd jdt_Or_takeName 57 rfl)) ?_
                refine J_mono (jg_Or_212 C (jkf_2_0 hy0) (jd jdt_Or_takeName 58 rfl)) ?_
                refine J_mono (w_iload_n C (jd jdt_Or_takeName 59 rfl) rfl) ?_
                refine J_bind (fun q16 hq16 => ?_)
                refine J_mono (jc_Or_180 C (C_Sp_at l G F (jpf (jpf y0 0) 2) x3 (jkf_7_2 (jkf_2_0 hy0)) M hq16) rfl (Nat.le_trans (Nat.le_of_ble_eq_true rfl : 1 + 1 ≤ 9) hD) (jd jdt_Or_takeName 60 rfl)) ?_
                refine J_bind (fun q17 hq17 => ?_)
                refine J_mono (jc_Or_215 C (C_Sp_putCell l G F (jpf (jop (M.1 y0 2)) 9) y2 x3 q16 (jkf_1_9 (jop_kd _)) M hq17) rfl (Nat.le_trans (Nat.le_of_ble_eq_true rfl : 1 + 1 ≤ 9) hD) (jd jdt_Or_takeName 61 rfl)) ?_
                refine J_mono (w_iinc (v := x3 + 1) (ls' := [some (.ref y0), none, some (.int y2), some (.int (x3 + 1))]) C (jd jdt_Or_takeName 62 rfl) rfl rfl (by decide) rfl rfl) ?_
                refine J_mono (w_goto C (jd jdt_Or_takeName 63 rfl) rfl) ?_
                exact J_sub (ih (x3 + 1) q17) ⟨rfl, rfl, rfl, trivial⟩
              · exact J_some (fun hx => Wk_sb hx ⟨rfl, trivial⟩)
          refine J_seq (fun (q18 : SM) => Wk p l e R s m args below meth c G 4 Q 0 0 jN0 (jce G q18) 134 [some (.ref a0), none, none, none] []) (J_sub (L99 a0 q14 hp0 jfuel 0 M) ⟨rfl, rfl, rfl, trivial⟩) (fun q18 hq18 => ?_)
          refine J_mono (w_aload_n C (jd jdt_Or_takeName 64 rfl) rfl) ?_
          refine J_mono (jg_Or_9 C hp0 (jd jdt_Or_takeName 65 rfl)) ?_
          refine J_bind (fun q19 hq19 => ?_)
          refine J_mono (jc_Or_81 C (jkf_2_0 hp0) (C_Re_step l G F (jpf a0 0) (jkf_2_0 hp0) q18 hq19) rfl (Nat.le_trans (Nat.le_of_ble_eq_true rfl : 2 + 1 ≤ 9) hD) (jd jdt_Or_takeName 66 rfl)) ?_
          refine J_mono (w_iconst_1 C (jd jdt_Or_takeName 67 rfl)) ?_
          exact J_some (fun hx => hR 1 q19 hx _ _ (jd jdt_Or_takeName 68 rfl) rfl)
        · refine J_mono (w_aload_n C (jd jdt_Or_takeName 31 rfl) rfl) ?_
          refine J_mono (jg_Or_9 C hp0 (jd jdt_Or_takeName 32 rfl)) ?_
          refine J_mono (w_iconst_3 C (jd jdt_Or_takeName 33 rfl)) ?_
          refine J_mono (w_aload_n C (jd jdt_Or_takeName 34 rfl) rfl) ?_
          refine J_mono (jg_Or_9 C hp0 (jd jdt_Or_takeName 35 rfl)) ?_
          refine J_mono (jg_Or_48 C (jkf_2_0 hp0) (jd jdt_Or_takeName 36 rfl)) ?_
          refine J_bind (fun q20 hq20 => ?_)
          refine J_mono (jc_Or_51 C (jkf_2_0 hp0) (C_Re_fail l G F (jpf a0 0) 3 (M.1 (jpf a0 0) 3) (jkf_2_0 hp0) M hq20) rfl (Nat.le_trans (Nat.le_of_ble_eq_true rfl : 1 + 1 ≤ 9) hD) (jd jdt_Or_takeName 37 rfl)) ?_
          refine J_bind (fun b21 hb21 => ?_)
          obtain rfl := bchk_e hb21
          exact J_some (fun hx => hR _ q20.2 hx _ _ (jd jdt_Or_takeName 38 rfl) (bchk_n hb21))
    · refine J_mono (w_aload_n C (jd jdt_Or_takeName 9 rfl) rfl) ?_
      refine J_mono (jg_Or_9 C hp0 (jd jdt_Or_takeName 10 rfl)) ?_
      refine J_bind (fun q22 hq22 => ?_)
      refine J_mono (jc_Or_74 C (jkf_2_0 hp0) (C_Re_refuse l G F (jpf a0 0) (jkf_2_0 hp0) M hq22) rfl (Nat.le_trans (Nat.le_of_ble_eq_true rfl : 2 + 1 ≤ 9) hD) (jd jdt_Or_takeName 11 rfl)) ?_
      refine J_bind (fun b23 hb23 => ?_)
      obtain rfl := bchk_e hb23
      exact J_some (fun hx => hR _ q22.2 hx _ _ (jd jdt_Or_takeName 12 rfl) (bchk_n hb23))
end
theorem C_Or_takeName (l : Launch) (G : JG) (F : jF G = false) (a0 : Nat) (a1 : Int32) (hp0 : jkd a0 2) (M : SM) {q : (Int32 × SM)} (hf : f_Or_takeName a0 a1 M = some q) : jMet l jy_Or_takeName jb_Or_takeName 4 (some FieldType.boolean) 9 0 0 G [.ref a0, .int a1] jN0 (jce G M) (some (.int q.1)) jN0 (jce G q.2) :=
  j_met jo_Or_takeName (by decide) (Nat.le_of_ble_eq_true rfl) (fun p e s m args below meth c C hr hm => K_Or_takeName C F (Nat.le_refl _) a0 a1 hp0 M (fun t => t = q) (fun v M' hX pc ls hd hn => by cases hX; exact w_iret C hr hn hd) _ hf rfl)
def f_Re_isSign (a0 : Nat) (a1 : Int32) (M : SM) : Option Int32 := if (M.1 a0 1) = 3 then ((f_Ta_read (jpf a0 0) (M.1 a0 3) M).bind fun q2 => if q2 = a1 then (some 1) else (some 0)) else (some 0)
section
variable {p : Program} {l : Launch} {e : Env} {R : Room} {s : State} {m : MethodId} {args : Array Value} {below : List Frame} {meth : Method} {c : Code} {G : JG} {D : Nat} {Q : State → Prop}
set_option maxHeartbeats 4000000 in
set_option maxRecDepth 20000 in
theorem K_Re_isSign (C : jCx p R s m args meth c G jb_Re_isSign 2 D "SluicePit$Reader") (F : jF G = false) (hD : 2 ≤ D) (a0 : Nat) (a1 : Int32) (hp0 : jkd a0 7) (M : SM) (X : Int32 → Prop) (hR : ∀ v, X v → ∀ (pc : Nat) (ls : List (Option Value)), decode jb_Re_isSign pc = .ok (.ireturn, 1) → narrow FieldType.boolean (.int v) = .int v → Wk p l e R s m args below meth c G 2 Q 0 0 jN0 (jce G M) pc ls [.int v]) : J X (f_Re_isSign a0 a1 M) (Wk p l e R s m args below meth c G 2 Q 0 0 jN0 (jce G M) 0 [some (.ref a0), some (.int a1)] []) := by
  unfold f_Re_isSign
  refine J_mono (w_aload_n C (jd jdt_Re_isSign 0 rfl) rfl) ?_
  refine J_mono (jg_Re_19 C hp0 (jd jdt_Re_isSign 1 rfl)) ?_
  refine J_mono (w_iconst_3 C (jd jdt_Re_isSign 2 rfl)) ?_
  refine J_br (w_icmp_ne C (jd jdt_Re_isSign 3 rfl) rfl) (fun h1 => J_pos h1 ?_) (fun h1 => J_neg h1 ?_)
  · refine J_mono (w_aload_n C (jd jdt_Re_isSign 4 rfl) rfl) ?_
    refine J_mono (jg_Re_9 C hp0 (jd jdt_Re_isSign 5 rfl)) ?_
    refine J_mono (w_aload_n C (jd jdt_Re_isSign 6 rfl) rfl) ?_
    refine J_mono (jg_Re_23 C hp0 (jd jdt_Re_isSign 7 rfl)) ?_
    refine J_bind (fun q2 hq2 => ?_)
    refine J_mono (jc_Re_43 C (jkf_7_0 hp0) (C_Ta_read l G F (jpf a0 0) (M.1 a0 3) (jkf_7_0 hp0) M hq2) rfl (Nat.le_trans (Nat.le_of_ble_eq_true rfl : 1 + 1 ≤ 2) hD) (jd jdt_Re_isSign 8 rfl)) ?_
    refine J_mono (w_iload_n C (jd jdt_Re_isSign 9 rfl) rfl) ?_
    refine J_br (w_icmp_ne C (jd jdt_Re_isSign 10 rfl) rfl) (fun h3 => J_pos h3 ?_) (fun h3 => J_neg h3 ?_)
    · refine J_mono (w_iconst_1 C (jd jdt_Re_isSign 11 rfl)) ?_
      refine J_mono (w_goto C (jd jdt_Re_isSign 12 rfl) rfl) ?_
      exact J_some (fun hx => hR 1 hx _ _ (jd jdt_Re_isSign 14 rfl) rfl)
    · refine J_mono (w_iconst_0 C (jd jdt_Re_isSign 13 rfl)) ?_
      exact J_some (fun hx => hR 0 hx _ _ (jd jdt_Re_isSign 14 rfl) rfl)
  · refine J_mono (w_iconst_0 C (jd jdt_Re_isSign 13 rfl)) ?_
    exact J_some (fun hx => hR 0 hx _ _ (jd jdt_Re_isSign 14 rfl) rfl)
end
theorem C_Re_isSign (l : Launch) (G : JG) (F : jF G = false) (a0 : Nat) (a1 : Int32) (hp0 : jkd a0 7) (M : SM) {q : Int32} (hf : f_Re_isSign a0 a1 M = some q) : jMet l jy_Re_isSign jb_Re_isSign 2 (some FieldType.boolean) 2 0 0 G [.ref a0, .int a1] jN0 (jce G M) (some (.int q)) jN0 (jce G M) :=
  j_met jo_Re_isSign (by decide) (Nat.le_of_ble_eq_true rfl) (fun p e s m args below meth c C hr hm => K_Re_isSign C F (Nat.le_refl _) a0 a1 hp0 M (fun t => t = q) (fun v hX pc ls hd hn => by cases hX; exact w_iret C hr hn hd) _ hf rfl)
def lp_Pr_actOf_2 (y0 : Int32) : Nat → Int32 → Option ((Unit) ⊕ Int32)
  | 0, _ => none
  | n + 1, x1 => if x1 < (jsln 1006) then ((jsch 1006 x1).bind fun v2 => if v2 = y0 then (some (.inr x1)) else (lp_Pr_actOf_2 y0 n (x1 + 1))) else (some (.inl ()))
def f_Pr_actOf (a0 : Int32) : Option Int32 := jsb (lp_Pr_actOf_2 a0 jfuel 0) id fun q4 => some (-1)
section
variable {p : Program} {l : Launch} {e : Env} {R : Room} {s : State} {m : MethodId} {args : Array Value} {below : List Frame} {meth : Method} {c : Code} {G : JG} {D : Nat} {Q : State → Prop}
set_option maxHeartbeats 4000000 in
set_option maxRecDepth 20000 in
theorem K_Pr_actOf (C : jCx p R s m args meth c G jb_Pr_actOf 2 D "SluicePit$PartReader") (F : jF G = false) (hD : 7 ≤ D) (a0 : Int32)  (M : SM) (X : Int32 → Prop) (hR : ∀ v, X v → ∀ (pc : Nat) (ls : List (Option Value)), decode jb_Pr_actOf pc = .ok (.ireturn, 1) → narrow FieldType.int (.int v) = .int v → Wk p l e R s m args below meth c G 2 Q 0 0 jN0 (jce G M) pc ls [.int v]) : J X (f_Pr_actOf a0) (Wk p l e R s m args below meth c G 2 Q 0 0 jN0 (jce G M) 0 [some (.int a0), none] []) := by
  unfold f_Pr_actOf
  refine J_mono (w_iconst_0 C (jd jdt_Pr_actOf 0 rfl)) ?_
  refine J_mono (w_istore_n (ls' := [some (.int a0), some (.int 0)]) C (jd jdt_Pr_actOf 1 rfl) (by decide) rfl rfl) ?_
  have L2 : ∀ (y0 : Int32) (n : Nat) (x1 : Int32), J (Sum.elim (fun (q4 : Unit) => Wk p l e R s m args below meth c G 2 Q 0 0 jN0 (jce G M) 29 [none, none] []) X) (lp_Pr_actOf_2 y0 n x1) (Wk p l e R s m args below meth c G 2 Q 0 0 jN0 (jce G M) 2 [some (.int y0), some (.int x1)] []) := by
    intro y0 n
    induction n with
    | zero => intro x1; exact J_none
    | succ n ih =>
      intro x1
      unfold lp_Pr_actOf_2
      refine J_mono (w_iload_n C (jd jdt_Pr_actOf 2 rfl) rfl) ?_
      refine J_mono (w_ldcS (i := 6) C rfl (jd jdt_Pr_actOf 3 rfl)) ?_
      refine J_mono (jc_Pr_93 C (jks_of 6) rfl (Nat.le_trans (Nat.le_of_ble_eq_true rfl : 2 + 1 ≤ 7) hD) (jd jdt_Pr_actOf 4 rfl)) ?_
      refine J_br (w_icmp_ge C (jd jdt_Pr_actOf 5 rfl) rfl) (fun h1 => J_pos h1 ?_) (fun h1 => J_neg h1 ?_)
      · refine J_mono (w_ldcS (i := 6) C rfl (jd jdt_Pr_actOf 6 rfl)) ?_
        refine J_mono (w_iload_n C (jd jdt_Pr_actOf 7 rfl) rfl) ?_
        refine J_bind (fun v2 hv2 => ?_)
        refine J_mono (jc_Pr_96 C (jks_of 6) hv2 rfl (Nat.le_trans (Nat.le_of_ble_eq_true rfl : 4 + 1 ≤ 7) hD) (jd jdt_Pr_actOf 8 rfl)) ?_
        refine J_mono (w_iload_n C (jd jdt_Pr_actOf 9 rfl) rfl) ?_
        refine J_br (w_icmp_ne C (jd jdt_Pr_actOf 10 rfl) rfl) (fun h3 => J_pos h3 ?_) (fun h3 => J_neg h3 ?_)
        · refine J_mono (w_iload_n C (jd jdt_Pr_actOf 11 rfl) rfl) ?_
          exact J_some (fun hx => hR x1 hx _ _ (jd jdt_Pr_actOf 12 rfl) rfl)
        · refine J_mono (w_iinc (v := x1 + 1) (ls' := [some (.int y0), some (.int (x1 + 1))]) C (jd jdt_Pr_actOf 13 rfl) rfl rfl (by decide) rfl rfl) ?_
          refine J_mono (w_goto C (jd jdt_Pr_actOf 14 rfl) rfl) ?_
          exact J_sub (ih (x1 + 1)) ⟨rfl, rfl, trivial⟩
      · exact J_some (fun hx => Wk_sb hx trivial)
  refine J_sb (fun (q4 : Unit) => Wk p l e R s m args below meth c G 2 Q 0 0 jN0 (jce G M) 29 [none, none] []) (J_sub (L2 a0 jfuel 0) ⟨rfl, rfl, trivial⟩) (fun q4 => ?_)
  refine J_mono (w_iconst_m1 C (jd jdt_Pr_actOf 15 rfl)) ?_
  exact J_some (fun hx => hR (-1) hx _ _ (jd jdt_Pr_actOf 16 rfl) rfl)
end
theorem C_Pr_actOf (l : Launch) (G : JG) (F : jF G = false) (a0 : Int32)  (M : SM) {q : Int32} (hf : f_Pr_actOf a0 = some q) : jMet l jy_Pr_actOf jb_Pr_actOf 2 (some FieldType.int) 7 0 0 G [.int a0] jN0 (jce G M) (some (.int q)) jN0 (jce G M) :=
  j_met jo_Pr_actOf (by decide) (Nat.le_of_ble_eq_true rfl) (fun p e s m args below meth c C hr hm => K_Pr_actOf C F (Nat.le_refl _) a0  M (fun t => t = q) (fun v hX pc ls hd hn => by cases hX; exact w_iret C hr hn hd) _ hf rfl)
def lp_Pr_groupStands_40 (y0 : Nat) (M : SM) : Nat → Int32 → Option ((Unit) ⊕ Int32)
  | 0, _ => none
  | n + 1, x1 => (f_Re_length (jpf y0 0) M).bind fun q7 => if x1 < q7 then ((f_Sp_at (jpf (jpf y0 0) 2) x1 M).bind fun q9 => (f_Pr_actOf q9).bind fun q10 => if q10 < 0 then (some (.inr 0)) else (lp_Pr_groupStands_40 y0 M n (x1 + 1))) else (some (.inl ()))
def f_Pr_groupStands (a0 : Nat) (M : SM) : Option Int32 := (f_Re_isSign (jpf a0 0) 40 M).bind fun q1 => if q1 = 0 then ((f_Re_isSomeWord (jpf a0 0) M).bind fun q3 => if q3 = 0 then (some 0) else ((f_Re_length (jpf a0 0) M).bind fun q5 => if 12 < q5 then (some 0) else (jsb (lp_Pr_groupStands_40 a0 M jfuel 0) id fun q12 => some 1))) else (some 1)
section
variable {p : Program} {l : Launch} {e : Env} {R : Room} {s : State} {m : MethodId} {args : Array Value} {below : List Frame} {meth : Method} {c : Code} {G : JG} {D : Nat} {Q : State → Prop}
set_option maxHeartbeats 4000000 in
set_option maxRecDepth 20000 in
theorem K_Pr_groupStands (C : jCx p R s m args meth c G jb_Pr_groupStands 2 D "SluicePit$PartReader") (F : jF G = false) (hD : 8 ≤ D) (a0 : Nat) (hp0 : jkd a0 3) (M : SM) (X : Int32 → Prop) (hR : ∀ v, X v → ∀ (pc : Nat) (ls : List (Option Value)), decode jb_Pr_groupStands pc = .ok (.ireturn, 1) → narrow FieldType.boolean (.int v) = .int v → Wk p l e R s m args below meth c G 2 Q 0 0 jN0 (jce G M) pc ls [.int v]) : J X (f_Pr_groupStands a0 M) (Wk p l e R s m args below meth c G 2 Q 0 0 jN0 (jce G M) 0 [some (.ref a0), none] []) := by
  unfold f_Pr_groupStands
  refine J_mono (w_aload_n C (jd jdt_Pr_groupStands 0 rfl) rfl) ?_
  refine J_mono (jg_Pr_9 C hp0 (jd jdt_Pr_groupStands 1 rfl)) ?_
  refine J_mono (w_bipush_40 C (jd jdt_Pr_groupStands 2 rfl)) ?_
  refine J_bind (fun q1 hq1 => ?_)
  refine J_mono (jc_Pr_43 C (jkf_3_0 hp0) (C_Re_isSign l G F (jpf a0 0) 40 (jkf_3_0 hp0) M hq1) rfl (Nat.le_trans (Nat.le_of_ble_eq_true rfl : 2 + 1 ≤ 8) hD) (jd jdt_Pr_groupStands 3 rfl)) ?_
  refine J_br (w_if_eq (y := 0) C (jd jdt_Pr_groupStands 4 rfl) rfl) (fun h2 => J_pos h2 ?_) (fun h2 => J_neg h2 ?_)
  · refine J_mono (w_aload_n C (jd jdt_Pr_groupStands 7 rfl) rfl) ?_
    refine J_mono (jg_Pr_9 C hp0 (jd jdt_Pr_groupStands 8 rfl)) ?_
    refine J_bind (fun q3 hq3 => ?_)
    refine J_mono (jc_Pr_73 C (jkf_3_0 hp0) (C_Re_isSomeWord l G F (jpf a0 0) (jkf_3_0 hp0) M hq3) rfl (Nat.le_trans (Nat.le_of_ble_eq_true rfl : 1 + 1 ≤ 8) hD) (jd jdt_Pr_groupStands 9 rfl)) ?_
    refine J_br (w_if_eq (y := 0) C (jd jdt_Pr_groupStands 10 rfl) rfl) (fun h4 => J_pos h4 ?_) (fun h4 => J_neg h4 ?_)
    · refine J_mono (w_iconst_0 C (jd jdt_Pr_groupStands 16 rfl)) ?_
      exact J_some (fun hx => hR 0 hx _ _ (jd jdt_Pr_groupStands 17 rfl) rfl)
    · refine J_mono (w_aload_n C (jd jdt_Pr_groupStands 11 rfl) rfl) ?_
      refine J_mono (jg_Pr_9 C hp0 (jd jdt_Pr_groupStands 12 rfl)) ?_
      refine J_bind (fun q5 hq5 => ?_)
      refine J_mono (jc_Pr_76 C (jkf_3_0 hp0) (C_Re_length l G F (jpf a0 0) (jkf_3_0 hp0) M hq5) rfl (Nat.le_trans (Nat.le_of_ble_eq_true rfl : 1 + 1 ≤ 8) hD) (jd jdt_Pr_groupStands 13 rfl)) ?_
      refine J_mono (w_bipush_12 C (jd jdt_Pr_groupStands 14 rfl)) ?_
      refine J_br (w_icmp_le C (jd jdt_Pr_groupStands 15 rfl) rfl) (fun h6 => J_pos h6 ?_) (fun h6 => J_neg h6 ?_)
      · refine J_mono (w_iconst_0 C (jd jdt_Pr_groupStands 16 rfl)) ?_
        exact J_some (fun hx => hR 0 hx _ _ (jd jdt_Pr_groupStands 17 rfl) rfl)
      · refine J_mono (w_iconst_0 C (jd jdt_Pr_groupStands 18 rfl)) ?_
        refine J_mono (w_istore_n (ls' := [some (.ref a0), some (.int 0)]) C (jd jdt_Pr_groupStands 19 rfl) (by decide) rfl rfl) ?_
        have L40 : ∀ (y0 : Nat) (hy0 : jkd y0 3) (n : Nat) (x1 : Int32), J (Sum.elim (fun (q12 : Unit) => Wk p l e R s m args below meth c G 2 Q 0 0 jN0 (jce G M) 76 [none, none] []) X) (lp_Pr_groupStands_40 y0 M n x1) (Wk p l e R s m args below meth c G 2 Q 0 0 jN0 (jce G M) 40 [some (.ref y0), some (.int x1)] []) := by
          intro y0 hy0 n
          induction n with
          | zero => intro x1; exact J_none
          | succ n ih =>
            intro x1
            unfold lp_Pr_groupStands_40
            refine J_mono (w_iload_n C (jd jdt_Pr_groupStands 20 rfl) rfl) ?_
            refine J_mono (w_aload_n C (jd jdt_Pr_groupStands 21 rfl) rfl) ?_
            refine J_mono (jg_Pr_9 C hy0 (jd jdt_Pr_groupStands 22 rfl)) ?_
            refine J_bind (fun q7 hq7 => ?_)
            refine J_mono (jc_Pr_76 C (jkf_3_0 hy0) (C_Re_length l G F (jpf y0 0) (jkf_3_0 hy0) M hq7) rfl (Nat.le_trans (Nat.le_of_ble_eq_true rfl : 1 + 1 ≤ 8) hD) (jd jdt_Pr_groupStands 23 rfl)) ?_
            refine J_br (w_icmp_ge C (jd jdt_Pr_groupStands 24 rfl) rfl) (fun h8 => J_pos h8 ?_) (fun h8 => J_neg h8 ?_)
            · refine J_mono (w_aload_n C (jd jdt_Pr_groupStands 25 rfl) rfl) ?_
              refine J_mono (jg_Pr_9 C hy0 (jd jdt_Pr_groupStands 26 rfl)) ?_
              refine J_mono (jg_Pr_80 C (jkf_3_0 hy0) (jd jdt_Pr_groupStands 27 rfl)) ?_
              refine J_mono (w_iload_n C (jd jdt_Pr_groupStands 28 rfl) rfl) ?_
              refine J_bind (fun q9 hq9 => ?_)
              refine J_mono (jc_Pr_83 C (C_Sp_at l G F (jpf (jpf y0 0) 2) x1 (jkf_7_2 (jkf_3_0 hy0)) M hq9) rfl (Nat.le_trans (Nat.le_of_ble_eq_true rfl : 1 + 1 ≤ 8) hD) (jd jdt_Pr_groupStands 29 rfl)) ?_
              refine J_bind (fun q10 hq10 => ?_)
              refine J_mono (jc_Pr_87 C (C_Pr_actOf l G F q9 M hq10) rfl (Nat.le_trans (Nat.le_of_ble_eq_true rfl : 7 + 1 ≤ 8) hD) (jd jdt_Pr_groupStands 30 rfl)) ?_
              refine J_br (w_if_ge (y := 0) C (jd jdt_Pr_groupStands 31 rfl) rfl) (fun h11 => J_pos h11 ?_) (fun h11 => J_neg h11 ?_)
              · refine J_mono (w_iconst_0 C (jd jdt_Pr_groupStands 32 rfl)) ?_
                exact J_some (fun hx => hR 0 hx _ _ (jd jdt_Pr_groupStands 33 rfl) rfl)
              · refine J_mono (w_iinc (v := x1 + 1) (ls' := [some (.ref y0), some (.int (x1 + 1))]) C (jd jdt_Pr_groupStands 34 rfl) rfl rfl (by decide) rfl rfl) ?_
                refine J_mono (w_goto C (jd jdt_Pr_groupStands 35 rfl) rfl) ?_
                exact J_sub (ih (x1 + 1)) ⟨rfl, rfl, trivial⟩
            · exact J_some (fun hx => Wk_sb hx trivial)
        refine J_sb (fun (q12 : Unit) => Wk p l e R s m args below meth c G 2 Q 0 0 jN0 (jce G M) 76 [none, none] []) (J_sub (L40 a0 hp0 jfuel 0) ⟨rfl, rfl, trivial⟩) (fun q12 => ?_)
        refine J_mono (w_iconst_1 C (jd jdt_Pr_groupStands 36 rfl)) ?_
        exact J_some (fun hx => hR 1 hx _ _ (jd jdt_Pr_groupStands 37 rfl) rfl)
  · refine J_mono (w_iconst_1 C (jd jdt_Pr_groupStands 5 rfl)) ?_
    exact J_some (fun hx => hR 1 hx _ _ (jd jdt_Pr_groupStands 6 rfl) rfl)
end
theorem C_Pr_groupStands (l : Launch) (G : JG) (F : jF G = false) (a0 : Nat) (hp0 : jkd a0 3) (M : SM) {q : Int32} (hf : f_Pr_groupStands a0 M = some q) : jMet l jy_Pr_groupStands jb_Pr_groupStands 2 (some FieldType.boolean) 8 0 0 G [.ref a0] jN0 (jce G M) (some (.int q)) jN0 (jce G M) :=
  j_met jo_Pr_groupStands (by decide) (Nat.le_of_ble_eq_true rfl) (fun p e s m args below meth c C hr hm => K_Pr_groupStands C F (Nat.le_refl _) a0 hp0 M (fun t => t = q) (fun v hX pc ls hd hn => by cases hX; exact w_iret C hr hn hd) _ hf rfl)
def lp_Pr_addLetters_2 (y0 : Nat) : Nat → Int32 → SM → Option (SM)
  | 0, _, _ => none
  | n + 1, x1, M => (f_Re_length (jpf y0 0) M).bind fun q1 => if x1 < q1 then ((f_Sp_at (jpf (jpf y0 0) 2) x1 M).bind fun q3 => (f_Pr_actOf q3).bind fun q4 => (f_Sp_put (jpf y0 1) ((M.1 y0 2) + x1) q4 M).bind fun q5 => lp_Pr_addLetters_2 y0 n (x1 + 1) q5) else (some M)
def f_Pr_addLetters (a0 : Nat) (M : SM) : Option SM := (lp_Pr_addLetters_2 a0 jfuel 0 M).bind fun q6 => (f_Re_length (jpf a0 0) q6).bind fun q7 => some (sI q6 a0 2 (jmin 1000 ((q6.1 a0 2) + q7)))
section
variable {p : Program} {l : Launch} {e : Env} {R : Room} {s : State} {m : MethodId} {args : Array Value} {below : List Frame} {meth : Method} {c : Code} {G : JG} {D : Nat} {Q : State → Prop}
set_option maxHeartbeats 4000000 in
set_option maxRecDepth 20000 in
theorem K_Pr_addLetters (C : jCx p R s m args meth c G jb_Pr_addLetters 2 D "SluicePit$PartReader") (F : jF G = false) (hD : 8 ≤ D) (a0 : Nat) (hp0 : jkd a0 3) (M : SM) (X : SM → Prop) (hR : ∀ M', X M' → ∀ (pc : Nat) (ls : List (Option Value)), decode jb_Pr_addLetters pc = .ok (.return_, 1) → Wk p l e R s m args below meth c G 2 Q 0 0 jN0 (jce G M') pc ls []) : J X (f_Pr_addLetters a0 M) (Wk p l e R s m args below meth c G 2 Q 0 0 jN0 (jce G M) 0 [some (.ref a0), none] []) := by
  unfold f_Pr_addLetters
  refine J_mono (w_iconst_0 C (jd jdt_Pr_addLetters 0 rfl)) ?_
  refine J_mono (w_istore_n (ls' := [some (.ref a0), some (.int 0)]) C (jd jdt_Pr_addLetters 1 rfl) (by decide) rfl rfl) ?_
  have L2 : ∀ (y0 : Nat) (hy0 : jkd y0 3) (n : Nat) (x1 : Int32) (M : SM), J (fun (q6 : SM) => Wk p l e R s m args below meth c G 2 Q 0 0 jN0 (jce G q6) 46 [some (.ref y0), none] []) (lp_Pr_addLetters_2 y0 n x1 M) (Wk p l e R s m args below meth c G 2 Q 0 0 jN0 (jce G M) 2 [some (.ref y0), some (.int x1)] []) := by
    intro y0 hy0 n
    induction n with
    | zero => intro x1 M; exact J_none
    | succ n ih =>
      intro x1 M
      unfold lp_Pr_addLetters_2
      refine J_mono (w_iload_n C (jd jdt_Pr_addLetters 2 rfl) rfl) ?_
      refine J_mono (w_aload_n C (jd jdt_Pr_addLetters 3 rfl) rfl) ?_
      refine J_mono (jg_Pr_9 C hy0 (jd jdt_Pr_addLetters 4 rfl)) ?_
      refine J_bind (fun q1 hq1 => ?_)
      refine J_mono (jc_Pr_76 C (jkf_3_0 hy0) (C_Re_length l G F (jpf y0 0) (jkf_3_0 hy0) M hq1) rfl (Nat.le_trans (Nat.le_of_ble_eq_true rfl : 1 + 1 ≤ 8) hD) (jd jdt_Pr_addLetters 5 rfl)) ?_
      refine J_br (w_icmp_ge C (jd jdt_Pr_addLetters 6 rfl) rfl) (fun h2 => J_pos h2 ?_) (fun h2 => J_neg h2 ?_)
      · refine J_mono (w_aload_n C (jd jdt_Pr_addLetters 7 rfl) rfl) ?_
        refine J_mono (jg_Pr_15 C hy0 (jd jdt_Pr_addLetters 8 rfl)) ?_
        refine J_mono (w_aload_n C (jd jdt_Pr_addLetters 9 rfl) rfl) ?_
        refine J_mono (jg_Pr_19 C hy0 (jd jdt_Pr_addLetters 10 rfl)) ?_
        refine J_mono (w_iload_n C (jd jdt_Pr_addLetters 11 rfl) rfl) ?_
        refine J_mono (w_iadd C (jd jdt_Pr_addLetters 12 rfl)) ?_
        refine J_mono (w_aload_n C (jd jdt_Pr_addLetters 13 rfl) rfl) ?_
        refine J_mono (jg_Pr_9 C hy0 (jd jdt_Pr_addLetters 14 rfl)) ?_
        refine J_mono (jg_Pr_80 C (jkf_3_0 hy0) (jd jdt_Pr_addLetters 15 rfl)) ?_
        refine J_mono (w_iload_n C (jd jdt_Pr_addLetters 16 rfl) rfl) ?_
        refine J_bind (fun q3 hq3 => ?_)
        refine J_mono (jc_Pr_83 C (C_Sp_at l G F (jpf (jpf y0 0) 2) x1 (jkf_7_2 (jkf_3_0 hy0)) M hq3) rfl (Nat.le_trans (Nat.le_of_ble_eq_true rfl : 1 + 1 ≤ 8) hD) (jd jdt_Pr_addLetters 17 rfl)) ?_
        refine J_bind (fun q4 hq4 => ?_)
        refine J_mono (jc_Pr_87 C (C_Pr_actOf l G F q3 M hq4) rfl (Nat.le_trans (Nat.le_of_ble_eq_true rfl : 7 + 1 ≤ 8) hD) (jd jdt_Pr_addLetters 18 rfl)) ?_
        refine J_bind (fun q5 hq5 => ?_)
        refine J_mono (jc_Pr_100 C (C_Sp_put l G F (jpf y0 1) ((M.1 y0 2) + x1) q4 (jkf_3_1 hy0) M hq5) rfl (Nat.le_trans (Nat.le_of_ble_eq_true rfl : 1 + 1 ≤ 8) hD) (jd jdt_Pr_addLetters 19 rfl)) ?_
        refine J_mono (w_iinc (v := x1 + 1) (ls' := [some (.ref y0), some (.int (x1 + 1))]) C (jd jdt_Pr_addLetters 20 rfl) rfl rfl (by decide) rfl rfl) ?_
        refine J_mono (w_goto C (jd jdt_Pr_addLetters 21 rfl) rfl) ?_
        exact J_sub (ih (x1 + 1) q5) ⟨rfl, rfl, trivial⟩
      · exact J_some (fun hx => Wk_sb hx ⟨rfl, trivial⟩)
  refine J_seq (fun (q6 : SM) => Wk p l e R s m args below meth c G 2 Q 0 0 jN0 (jce G q6) 46 [some (.ref a0), none] []) (J_sub (L2 a0 hp0 jfuel 0 M) ⟨rfl, rfl, trivial⟩) (fun q6 hq6 => ?_)
  refine J_mono (w_aload_n C (jd jdt_Pr_addLetters 22 rfl) rfl) ?_
  refine J_mono (w_sipush_1000 C (jd jdt_Pr_addLetters 23 rfl)) ?_
  refine J_mono (w_aload_n C (jd jdt_Pr_addLetters 24 rfl) rfl) ?_
  refine J_mono (jg_Pr_19 C hp0 (jd jdt_Pr_addLetters 25 rfl)) ?_
  refine J_mono (w_aload_n C (jd jdt_Pr_addLetters 26 rfl) rfl) ?_
  refine J_mono (jg_Pr_9 C hp0 (jd jdt_Pr_addLetters 27 rfl)) ?_
  refine J_bind (fun q7 hq7 => ?_)
  refine J_mono (jc_Pr_76 C (jkf_3_0 hp0) (C_Re_length l G F (jpf a0 0) (jkf_3_0 hp0) q6 hq7) rfl (Nat.le_trans (Nat.le_of_ble_eq_true rfl : 1 + 1 ≤ 8) hD) (jd jdt_Pr_addLetters 28 rfl)) ?_
  refine J_mono (w_iadd C (jd jdt_Pr_addLetters 29 rfl)) ?_
  refine J_mono (w_mmin C (Nat.zero_le _) (Nat.zero_le _) (Nat.le_of_ble_eq_true rfl) jw_650 (jd jdt_Pr_addLetters 30 rfl)) ?_
  refine J_mono (jp_Pr_19 C F hp0 (jd jdt_Pr_addLetters 31 rfl)) ?_
  exact J_some (fun hx => hR (sI q6 a0 2 (jmin 1000 ((q6.1 a0 2) + q7))) hx _ _ (jd jdt_Pr_addLetters 32 rfl))
end
theorem C_Pr_addLetters (l : Launch) (G : JG) (F : jF G = false) (a0 : Nat) (hp0 : jkd a0 3) (M : SM) {q : SM} (hf : f_Pr_addLetters a0 M = some q) : jMet l jy_Pr_addLetters jb_Pr_addLetters 2 none 8 0 0 G [.ref a0] jN0 (jce G M) none jN0 (jce G q) :=
  j_met jo_Pr_addLetters (by decide) (Nat.le_of_ble_eq_true rfl) (fun p e s m args below meth c C hr hm => K_Pr_addLetters C F (Nat.le_refl _) a0 hp0 M (fun t => t = q) (fun M' hX pc ls hd => by cases hX; exact w_vret C hr hd) _ hf rfl)
def f_Re_takeSign (a0 : Nat) (a1 : Int32) (M : SM) : Option (Int32 × SM) := (f_Re_isSign a0 a1 M).bind fun q1 => if q1 = 0 then ((f_Re_refuse a0 M).bind fun q3 => (bchk q3.1).bind fun b4 => some (b4, q3.2)) else ((f_Re_step a0 M).bind fun q5 => some (1, q5))
section
variable {p : Program} {l : Launch} {e : Env} {R : Room} {s : State} {m : MethodId} {args : Array Value} {below : List Frame} {meth : Method} {c : Code} {G : JG} {D : Nat} {Q : State → Prop}
set_option maxHeartbeats 4000000 in
set_option maxRecDepth 20000 in
theorem K_Re_takeSign (C : jCx p R s m args meth c G jb_Re_takeSign 2 D "SluicePit$Reader") (F : jF G = false) (hD : 3 ≤ D) (a0 : Nat) (a1 : Int32) (hp0 : jkd a0 7) (M : SM) (X : (Int32 × SM) → Prop) (hR : ∀ v M', X (v, M') → ∀ (pc : Nat) (ls : List (Option Value)), decode jb_Re_takeSign pc = .ok (.ireturn, 1) → narrow FieldType.boolean (.int v) = .int v → Wk p l e R s m args below meth c G 2 Q 0 0 jN0 (jce G M') pc ls [.int v]) : J X (f_Re_takeSign a0 a1 M) (Wk p l e R s m args below meth c G 2 Q 0 0 jN0 (jce G M) 0 [some (.ref a0), some (.int a1)] []) := by
  unfold f_Re_takeSign
  refine J_mono (w_aload_n C (jd jdt_Re_takeSign 0 rfl) rfl) ?_
  refine J_mono (w_iload_n C (jd jdt_Re_takeSign 1 rfl) rfl) ?_
  refine J_bind (fun q1 hq1 => ?_)
  refine J_mono (jc_Re_87 C hp0 (C_Re_isSign l G F a0 a1 hp0 M hq1) rfl (Nat.le_trans (Nat.le_of_ble_eq_true rfl : 2 + 1 ≤ 3) hD) (jd jdt_Re_takeSign 2 rfl)) ?_
  refine J_br (w_if_ne (y := 0) C (jd jdt_Re_takeSign 3 rfl) rfl) (fun h2 => J_pos h2 ?_) (fun h2 => J_neg h2 ?_)
  · refine J_mono (w_aload_n C (jd jdt_Re_takeSign 4 rfl) rfl) ?_
    refine J_bind (fun q3 hq3 => ?_)
    refine J_mono (jc_Re_83 C hp0 (C_Re_refuse l G F a0 hp0 M hq3) rfl (Nat.le_trans (Nat.le_of_ble_eq_true rfl : 2 + 1 ≤ 3) hD) (jd jdt_Re_takeSign 5 rfl)) ?_
    refine J_bind (fun b4 hb4 => ?_)
    obtain rfl := bchk_e hb4
    exact J_some (fun hx => hR _ q3.2 hx _ _ (jd jdt_Re_takeSign 6 rfl) (bchk_n hb4))
  · refine J_mono (w_aload_n C (jd jdt_Re_takeSign 7 rfl) rfl) ?_
    refine J_bind (fun q5 hq5 => ?_)
    refine J_mono (jc_Re_35 C hp0 (C_Re_step l G F a0 hp0 M hq5) rfl (Nat.le_trans (Nat.le_of_ble_eq_true rfl : 2 + 1 ≤ 3) hD) (jd jdt_Re_takeSign 8 rfl)) ?_
    refine J_mono (w_iconst_1 C (jd jdt_Re_takeSign 9 rfl)) ?_
    exact J_some (fun hx => hR 1 q5 hx _ _ (jd jdt_Re_takeSign 10 rfl) rfl)
end
theorem C_Re_takeSign (l : Launch) (G : JG) (F : jF G = false) (a0 : Nat) (a1 : Int32) (hp0 : jkd a0 7) (M : SM) {q : (Int32 × SM)} (hf : f_Re_takeSign a0 a1 M = some q) : jMet l jy_Re_takeSign jb_Re_takeSign 2 (some FieldType.boolean) 3 0 0 G [.ref a0, .int a1] jN0 (jce G M) (some (.int q.1)) jN0 (jce G q.2) :=
  j_met jo_Re_takeSign (by decide) (Nat.le_of_ble_eq_true rfl) (fun p e s m args below meth c C hr hm => K_Re_takeSign C F (Nat.le_refl _) a0 a1 hp0 M (fun t => t = q) (fun v M' hX pc ls hd hn => by cases hX; exact w_iret C hr hn hd) _ hf rfl)
def lp_Pr_repeat_26 (y0 : Nat) (y3 : Int32) (y4 : Int32) : Nat → Int32 → SM → Option (SM)
  | 0, _, _ => none
  | n + 1, x5, M => if x5 < y4 then ((f_Sp_at (jpf y0 1) (x5 - y3) M).bind fun q2 => (f_Sp_put (jpf y0 1) x5 q2 M).bind fun q3 => lp_Pr_repeat_26 y0 y3 y4 n (x5 + 1) q3) else (some M)
def f_Pr_repeat (a0 : Nat) (a1 : Int32) (a2 : Int32) (M : SM) : Option SM := (lp_Pr_repeat_26 a0 ((M.1 a0 2) - a1) (jmin 1000 (a1 + (((M.1 a0 2) - a1) * a2))) jfuel (M.1 a0 2) M).bind fun q4 => some (sI q4 a0 2 (jmin 1000 (a1 + (((M.1 a0 2) - a1) * a2))))
section
variable {p : Program} {l : Launch} {e : Env} {R : Room} {s : State} {m : MethodId} {args : Array Value} {below : List Frame} {meth : Method} {c : Code} {G : JG} {D : Nat} {Q : State → Prop}
set_option maxHeartbeats 4000000 in
set_option maxRecDepth 20000 in
theorem K_Pr_repeat (C : jCx p R s m args meth c G jb_Pr_repeat 6 D "SluicePit$PartReader") (F : jF G = false) (hD : 7 ≤ D) (a0 : Nat) (a1 : Int32) (a2 : Int32) (hp0 : jkd a0 3) (M : SM) (X : SM → Prop) (hR : ∀ M', X M' → ∀ (pc : Nat) (ls : List (Option Value)), decode jb_Pr_repeat pc = .ok (.return_, 1) → Wk p l e R s m args below meth c G 6 Q 0 0 jN0 (jce G M') pc ls []) : J X (f_Pr_repeat a0 a1 a2 M) (Wk p l e R s m args below meth c G 6 Q 0 0 jN0 (jce G M) 0 [some (.ref a0), some (.int a1), some (.int a2), none, none, none] []) := by
  unfold f_Pr_repeat
  refine J_mono (w_aload_n C (jd jdt_Pr_repeat 0 rfl) rfl) ?_
  refine J_mono (jg_Pr_19 C hp0 (jd jdt_Pr_repeat 1 rfl)) ?_
  refine J_mono (w_iload_n C (jd jdt_Pr_repeat 2 rfl) rfl) ?_
  refine J_mono (w_isub C (jd jdt_Pr_repeat 3 rfl)) ?_
  refine J_mono (w_istore_n (ls' := [some (.ref a0), some (.int a1), some (.int a2), some (.int ((M.1 a0 2) - a1)), none, none]) C (jd jdt_Pr_repeat 4 rfl) (by decide) rfl rfl) ?_
  refine J_mono (w_sipush_1000 C (jd jdt_Pr_repeat 5 rfl)) ?_
  refine J_mono (w_iload_n C (jd jdt_Pr_repeat 6 rfl) rfl) ?_
  refine J_mono (w_iload_n C (jd jdt_Pr_repeat 7 rfl) rfl) ?_
  refine J_mono (w_iload_n C (jd jdt_Pr_repeat 8 rfl) rfl) ?_
  refine J_mono (w_imul C (jd jdt_Pr_repeat 9 rfl)) ?_
  refine J_mono (w_iadd C (jd jdt_Pr_repeat 10 rfl)) ?_
  refine J_mono (w_mmin C (Nat.zero_le _) (Nat.zero_le _) (Nat.le_of_ble_eq_true rfl) jw_650 (jd jdt_Pr_repeat 11 rfl)) ?_
  refine J_mono (w_istore (ls' := [some (.ref a0), some (.int a1), some (.int a2), some (.int ((M.1 a0 2) - a1)), some (.int (jmin 1000 (a1 + (((M.1 a0 2) - a1) * a2)))), none]) C (jd jdt_Pr_repeat 12 rfl) (by decide) rfl rfl) ?_
  refine J_mono (w_aload_n C (jd jdt_Pr_repeat 13 rfl) rfl) ?_
  refine J_mono (jg_Pr_19 C hp0 (jd jdt_Pr_repeat 14 rfl)) ?_
  refine J_mono (w_istore (ls' := [some (.ref a0), some (.int a1), some (.int a2), some (.int ((M.1 a0 2) - a1)), some (.int (jmin 1000 (a1 + (((M.1 a0 2) - a1) * a2)))), some (.int (M.1 a0 2))]) C (jd jdt_Pr_repeat 15 rfl) (by decide) rfl rfl) ?_
  have L26 : ∀ (y0 : Nat) (y3 : Int32) (y4 : Int32) (hy0 : jkd y0 3) (n : Nat) (x5 : Int32) (M : SM), J (fun (q4 : SM) => Wk p l e R s m args below meth c G 6 Q 0 0 jN0 (jce G q4) 59 [some (.ref y0), none, none, none, some (.int y4), none] []) (lp_Pr_repeat_26 y0 y3 y4 n x5 M) (Wk p l e R s m args below meth c G 6 Q 0 0 jN0 (jce G M) 26 [some (.ref y0), none, none, some (.int y3), some (.int y4), some (.int x5)] []) := by
    intro y0 y3 y4 hy0 n
    induction n with
    | zero => intro x5 M; exact J_none
    | succ n ih =>
      intro x5 M
      unfold lp_Pr_repeat_26
      refine J_mono (w_iload C (jd jdt_Pr_repeat 16 rfl) rfl) ?_
      refine J_mono (w_iload C (jd jdt_Pr_repeat 17 rfl) rfl) ?_
      refine J_br (w_icmp_ge C (jd jdt_Pr_repeat 18 rfl) rfl) (fun h1 => J_pos h1 ?_) (fun h1 => J_neg h1 ?_)
      · refine J_mono (w_aload_n C (jd jdt_Pr_repeat 19 rfl) rfl) ?_
        refine J_mono (jg_Pr_15 C hy0 (jd jdt_Pr_repeat 20 rfl)) ?_
        refine J_mono (w_iload C (jd jdt_Pr_repeat 21 rfl) rfl) ?_
        refine J_mono (w_aload_n C (jd jdt_Pr_repeat 22 rfl) rfl) ?_
        refine J_mono (jg_Pr_15 C hy0 (jd jdt_Pr_repeat 23 rfl)) ?_
        refine J_mono (w_iload C (jd jdt_Pr_repeat 24 rfl) rfl) ?_
        refine J_mono (w_iload_n C (jd jdt_Pr_repeat 25 rfl) rfl) ?_
        refine J_mono (w_isub C (jd jdt_Pr_repeat 26 rfl)) ?_
        refine J_bind (fun q2 hq2 => ?_)
        refine J_mono (jc_Pr_83 C (C_Sp_at l G F (jpf y0 1) (x5 - y3) (jkf_3_1 hy0) M hq2) rfl (Nat.le_trans (Nat.le_of_ble_eq_true rfl : 1 + 1 ≤ 7) hD) (jd jdt_Pr_repeat 27 rfl)) ?_
        refine J_bind (fun q3 hq3 => ?_)
        refine J_mono (jc_Pr_100 C (C_Sp_put l G F (jpf y0 1) x5 q2 (jkf_3_1 hy0) M hq3) rfl (Nat.le_trans (Nat.le_of_ble_eq_true rfl : 1 + 1 ≤ 7) hD) (jd jdt_Pr_repeat 28 rfl)) ?_
        refine J_mono (w_iinc (v := x5 + 1) (ls' := [some (.ref y0), none, none, some (.int y3), some (.int y4), some (.int (x5 + 1))]) C (jd jdt_Pr_repeat 29 rfl) rfl rfl (by decide) rfl rfl) ?_
        refine J_mono (w_goto C (jd jdt_Pr_repeat 30 rfl) rfl) ?_
        exact J_sub (ih (x5 + 1) q3) ⟨rfl, rfl, rfl, rfl, trivial⟩
      · exact J_some (fun hx => Wk_sb hx ⟨rfl, rfl, trivial⟩)
  refine J_seq (fun (q4 : SM) => Wk p l e R s m args below meth c G 6 Q 0 0 jN0 (jce G q4) 59 [some (.ref a0), none, none, none, some (.int (jmin 1000 (a1 + (((M.1 a0 2) - a1) * a2)))), none] []) (J_sub (L26 a0 ((M.1 a0 2) - a1) (jmin 1000 (a1 + (((M.1 a0 2) - a1) * a2))) hp0 jfuel (M.1 a0 2) M) ⟨rfl, rfl, rfl, rfl, trivial⟩) (fun q4 hq4 => ?_)
  refine J_mono (w_aload_n C (jd jdt_Pr_repeat 31 rfl) rfl) ?_
  refine J_mono (w_iload C (jd jdt_Pr_repeat 32 rfl) rfl) ?_
  refine J_mono (jp_Pr_19 C F hp0 (jd jdt_Pr_repeat 33 rfl)) ?_
  exact J_some (fun hx => hR (sI q4 a0 2 (jmin 1000 (a1 + (((M.1 a0 2) - a1) * a2)))) hx _ _ (jd jdt_Pr_repeat 34 rfl))
end
theorem C_Pr_repeat (l : Launch) (G : JG) (F : jF G = false) (a0 : Nat) (a1 : Int32) (a2 : Int32) (hp0 : jkd a0 3) (M : SM) {q : SM} (hf : f_Pr_repeat a0 a1 a2 M = some q) : jMet l jy_Pr_repeat jb_Pr_repeat 6 none 7 0 0 G [.ref a0, .int a1, .int a2] jN0 (jce G M) none jN0 (jce G q) :=
  j_met jo_Pr_repeat (by decide) (Nat.le_of_ble_eq_true rfl) (fun p e s m args below meth c C hr hm => K_Pr_repeat C F (Nat.le_refl _) a0 a1 a2 hp0 M (fun t => t = q) (fun M' hX pc ls hd => by cases hX; exact w_vret C hr hd) _ hf rfl)
def lp_Pr_part_17 (gf : (Nat → Int32 → SM → Option (Int32 × SM)) × (Nat → Int32 → SM → Option (Int32 × SM))) (y0 : Nat) (y1 : Int32) : Nat → Int32 → SM → Option ((SM) ⊕ (Int32 × SM))
  | 0, _, _ => none
  | n + 1, x2, M => if x2 < 1600 then ((f_Pr_groupStands y0 M).bind fun q6 => if q6 = 0 then (some (.inl M)) else ((gf.2 y0 y1 M).bind fun q8 => if q8.1 = 0 then (some (.inr (0, q8.2))) else (if y1 = 0 then (if 60 < (q8.2.1 y0 2) then ((f_Re_fail (jpf y0 0) 5 (M.1 (jpf y0 0) 3) q8.2).bind fun q12 => (bchk q12.1).bind fun b13 => some (.inr (b13, q12.2))) else (lp_Pr_part_17 gf y0 y1 n (x2 + 1) q8.2)) else (lp_Pr_part_17 gf y0 y1 n (x2 + 1) q8.2)))) else (some (.inl M))
def fb_Pr_part (gf : (Nat → Int32 → SM → Option (Int32 × SM)) × (Nat → Int32 → SM → Option (Int32 × SM))) (a0 : Nat) (a1 : Int32) (M : SM) : Option (Int32 × SM) := (f_Pr_groupStands a0 M).bind fun q1 => if q1 = 0 then ((f_Re_refuse (jpf a0 0) M).bind fun q3 => (bchk q3.1).bind fun b4 => some (b4, q3.2)) else (jsb (lp_Pr_part_17 gf a0 a1 jfuel 0 M) id fun q14 => some (1, q14))
section
variable {p : Program} {l : Launch} {e : Env} {R : Room} {s : State} {m : MethodId} {args : Array Value} {below : List Frame} {meth : Method} {c : Code} {G : JG} {D : Nat} {Q : State → Prop}
set_option maxHeartbeats 4000000 in
set_option maxRecDepth 20000 in
theorem K_Pr_part (gf : (Nat → Int32 → SM → Option (Int32 × SM)) × (Nat → Int32 → SM → Option (Int32 × SM))) (C : jCx p R s m args meth c G jb_Pr_part 4 D "SluicePit$PartReader") (F : jF G = false) {n : Nat} (gh : (∀ (a0 : Nat) (a1 : Int32) (hp0 : jkd a0 3) (M : SM) (q : (Int32 × SM)), (gf.1 a0 a1 M) = some q → jMet l jy_Pr_part jb_Pr_part 4 (some FieldType.boolean) (9 + n) 0 0 G [.ref a0, .int a1] jN0 (jce G M) (some (.int q.1)) jN0 (jce G q.2)) ∧ (∀ (a0 : Nat) (a1 : Int32) (hp0 : jkd a0 3) (M : SM) (q : (Int32 × SM)), (gf.2 a0 a1 M) = some q → jMet l jy_Pr_group jb_Pr_group 4 (some FieldType.boolean) (9 + n) 0 0 G [.ref a0, .int a1] jN0 (jce G M) (some (.int q.1)) jN0 (jce G q.2))) (hD : 9 + n + 1 ≤ D) (a0 : Nat) (a1 : Int32) (hp0 : jkd a0 3) (M : SM) (X : (Int32 × SM) → Prop) (hR : ∀ v M', X (v, M') → ∀ (pc : Nat) (ls : List (Option Value)), decode jb_Pr_part pc = .ok (.ireturn, 1) → narrow FieldType.boolean (.int v) = .int v → Wk p l e R s m args below meth c G 4 Q 0 0 jN0 (jce G M') pc ls [.int v]) : J X (fb_Pr_part gf a0 a1 M) (Wk p l e R s m args below meth c G 4 Q 0 0 jN0 (jce G M) 0 [some (.ref a0), some (.int a1), none, none] []) := by
  unfold fb_Pr_part
  refine J_mono (w_aload_n C (jd jdt_Pr_part 0 rfl) rfl) ?_
  refine J_bind (fun q1 hq1 => ?_)
  refine J_mono (jc_Pr_23 C hp0 (C_Pr_groupStands l G F a0 hp0 M hq1) rfl (by omega) (jd jdt_Pr_part 1 rfl)) ?_
  refine J_br (w_if_ne (y := 0) C (jd jdt_Pr_part 2 rfl) rfl) (fun h2 => J_pos h2 ?_) (fun h2 => J_neg h2 ?_)
  · refine J_mono (w_aload_n C (jd jdt_Pr_part 3 rfl) rfl) ?_
    refine J_mono (jg_Pr_9 C hp0 (jd jdt_Pr_part 4 rfl)) ?_
    refine J_bind (fun q3 hq3 => ?_)
    refine J_mono (jc_Pr_27 C (jkf_3_0 hp0) (C_Re_refuse l G F (jpf a0 0) (jkf_3_0 hp0) M hq3) rfl (by omega) (jd jdt_Pr_part 5 rfl)) ?_
    refine J_bind (fun b4 hb4 => ?_)
    obtain rfl := bchk_e hb4
    exact J_some (fun hx => hR _ q3.2 hx _ _ (jd jdt_Pr_part 6 rfl) (bchk_n hb4))
  · refine J_mono (w_iconst_0 C (jd jdt_Pr_part 7 rfl)) ?_
    refine J_mono (w_istore_n (ls' := [some (.ref a0), some (.int a1), some (.int 0), none]) C (jd jdt_Pr_part 8 rfl) (by decide) rfl rfl) ?_
    have L17 : ∀ (y0 : Nat) (y1 : Int32) (hy0 : jkd y0 3) (n : Nat) (x2 : Int32) (M : SM), J (Sum.elim (fun (q14 : SM) => Wk p l e R s m args below meth c G 4 Q 0 0 jN0 (jce G q14) 78 [none, none, none, none] []) X) (lp_Pr_part_17 gf y0 y1 n x2 M) (Wk p l e R s m args below meth c G 4 Q 0 0 jN0 (jce G M) 17 [some (.ref y0), some (.int y1), some (.int x2), none] []) := by
      intro y0 y1 hy0 n
      induction n with
      | zero => intro x2 M; exact J_none
      | succ n ih =>
        intro x2 M
        unfold lp_Pr_part_17
        refine J_mono (w_iload_n C (jd jdt_Pr_part 9 rfl) rfl) ?_
        refine J_mono (w_sipush_1600 C (jd jdt_Pr_part 10 rfl)) ?_
        refine J_br (w_icmp_ge C (jd jdt_Pr_part 11 rfl) rfl) (fun h5 => J_pos h5 ?_) (fun h5 => J_neg h5 ?_)
        · refine J_mono (w_aload_n C (jd jdt_Pr_part 12 rfl) rfl) ?_
          refine J_bind (fun q6 hq6 => ?_)
          refine J_mono (jc_Pr_23 C hy0 (C_Pr_groupStands l G F y0 hy0 M hq6) rfl (by omega) (jd jdt_Pr_part 13 rfl)) ?_
          refine J_br (w_if_eq (y := 0) C (jd jdt_Pr_part 14 rfl) rfl) (fun h7 => J_pos h7 ?_) (fun h7 => J_neg h7 ?_)
          · exact J_some (fun hx => Wk_sb hx trivial)
          · refine J_mono (w_aload_n C (jd jdt_Pr_part 15 rfl) rfl) ?_
            refine J_mono (jg_Pr_9 C hy0 (jd jdt_Pr_part 16 rfl)) ?_
            refine J_mono (jg_Pr_32 C (jkf_3_0 hy0) (jd jdt_Pr_part 17 rfl)) ?_
            refine J_mono (w_istore_n (ls' := [some (.ref y0), some (.int y1), some (.int x2), some (.int (M.1 (jpf y0 0) 3))]) C (jd jdt_Pr_part 18 rfl) (by decide) rfl rfl) ?_
            refine J_mono (w_aload_n C (jd jdt_Pr_part 19 rfl) rfl) ?_
            refine J_mono (w_iload_n C (jd jdt_Pr_part 20 rfl) rfl) ?_
            refine J_bind (fun q8 hq8 => ?_)
            refine J_mono (jc_Pr_35 C hy0 (gh.2 y0 y1 hy0 M _ hq8) rfl (by omega) (jd jdt_Pr_part 21 rfl)) ?_
            refine J_br (w_if_ne (y := 0) C (jd jdt_Pr_part 22 rfl) rfl) (fun h9 => J_pos h9 ?_) (fun h9 => J_neg h9 ?_)
            · refine J_mono (w_iconst_0 C (jd jdt_Pr_part 23 rfl)) ?_
              exact J_some (fun hx => hR 0 q8.2 hx _ _ (jd jdt_Pr_part 24 rfl) rfl)
            · refine J_mono (w_iload_n C (jd jdt_Pr_part 25 rfl) rfl) ?_
              refine J_br (w_if_ne (y := 0) C (jd jdt_Pr_part 26 rfl) rfl) (fun h10 => J_pos h10 ?_) (fun h10 => J_neg h10 ?_)
              · refine J_mono (w_aload_n C (jd jdt_Pr_part 27 rfl) rfl) ?_
                refine J_mono (jg_Pr_19 C hy0 (jd jdt_Pr_part 28 rfl)) ?_
                refine J_mono (w_bipush_60 C (jd jdt_Pr_part 29 rfl)) ?_
                refine J_br (w_icmp_le C (jd jdt_Pr_part 30 rfl) rfl) (fun h11 => J_pos h11 ?_) (fun h11 => J_neg h11 ?_)
                · refine J_mono (w_aload_n C (jd jdt_Pr_part 31 rfl) rfl) ?_
                  refine J_mono (jg_Pr_9 C hy0 (jd jdt_Pr_part 32 rfl)) ?_
                  refine J_mono (w_iconst_5 C (jd jdt_Pr_part 33 rfl)) ?_
                  refine J_mono (w_iload_n C (jd jdt_Pr_part 34 rfl) rfl) ?_
                  refine J_bind (fun q12 hq12 => ?_)
                  refine J_mono (jc_Pr_39 C (jkf_3_0 hy0) (C_Re_fail l G F (jpf y0 0) 5 (M.1 (jpf y0 0) 3) (jkf_3_0 hy0) q8.2 hq12) rfl (by omega) (jd jdt_Pr_part 35 rfl)) ?_
                  refine J_bind (fun b13 hb13 => ?_)
                  obtain rfl := bchk_e hb13
                  exact J_some (fun hx => hR _ q12.2 hx _ _ (jd jdt_Pr_part 36 rfl) (bchk_n hb13))
                · refine J_mono (w_iinc (v := x2 + 1) (ls' := [some (.ref y0), some (.int y1), some (.int (x2 + 1)), some (.int (M.1 (jpf y0 0) 3))]) C (jd jdt_Pr_part 37 rfl) rfl rfl (by decide) rfl rfl) ?_
                  refine J_mono (w_goto C (jd jdt_Pr_part 38 rfl) rfl) ?_
                  exact J_sub (ih (x2 + 1) q8.2) ⟨rfl, rfl, rfl, trivial⟩
              · refine J_mono (w_iinc (v := x2 + 1) (ls' := [some (.ref y0), some (.int y1), some (.int (x2 + 1)), some (.int (M.1 (jpf y0 0) 3))]) C (jd jdt_Pr_part 37 rfl) rfl rfl (by decide) rfl rfl) ?_
                refine J_mono (w_goto C (jd jdt_Pr_part 38 rfl) rfl) ?_
                exact J_sub (ih (x2 + 1) q8.2) ⟨rfl, rfl, rfl, trivial⟩
        · exact J_some (fun hx => Wk_sb hx trivial)
    refine J_sb (fun (q14 : SM) => Wk p l e R s m args below meth c G 4 Q 0 0 jN0 (jce G q14) 78 [none, none, none, none] []) (J_sub (L17 a0 a1 hp0 jfuel 0 M) ⟨rfl, rfl, rfl, trivial⟩) (fun q14 => ?_)
    refine J_mono (w_iconst_1 C (jd jdt_Pr_part 39 rfl)) ?_
    exact J_some (fun hx => hR 1 q14 hx _ _ (jd jdt_Pr_part 40 rfl) rfl)
end
def fb_Pr_group (gf : (Nat → Int32 → SM → Option (Int32 × SM)) × (Nat → Int32 → SM → Option (Int32 × SM))) (a0 : Nat) (a1 : Int32) (M : SM) : Option (Int32 × SM) := (f_Re_isSign (jpf a0 0) 40 M).bind fun q1 => if q1 = 0 then ((f_Pr_addLetters a0 M).bind fun q3 => (f_Re_step (jpf a0 0) q3).bind fun q4 => some (1, q4)) else (if a1 < 5 then ((f_Re_step (jpf a0 0) M).bind fun q6 => (gf.1 a0 (a1 + 1) q6).bind fun q7 => if q7.1 = 0 then (some (0, q7.2)) else ((f_Re_takeSign (jpf a0 0) 41 q7.2).bind fun q9 => if q9.1 = 0 then (some (0, q9.2)) else ((f_Re_takeWord (jpf a0 0) 1007 q9.2).bind fun q11 => if q11.1 = 0 then (some (0, q11.2)) else ((f_Re_takeNumber (jpf a0 0) 2 9 q11.2).bind fun q13 => if q13.1 < 0 then (some (0, q13.2)) else ((f_Pr_repeat a0 (M.1 a0 2) q13.1 q13.2).bind fun q15 => some (1, q15)))))) else ((f_Re_fail (jpf a0 0) 4 (M.1 (jpf a0 0) 3) M).bind fun q16 => (bchk q16.1).bind fun b17 => some (b17, q16.2)))
section
variable {p : Program} {l : Launch} {e : Env} {R : Room} {s : State} {m : MethodId} {args : Array Value} {below : List Frame} {meth : Method} {c : Code} {G : JG} {D : Nat} {Q : State → Prop}
set_option maxHeartbeats 4000000 in
set_option maxRecDepth 20000 in
theorem K_Pr_group (gf : (Nat → Int32 → SM → Option (Int32 × SM)) × (Nat → Int32 → SM → Option (Int32 × SM))) (C : jCx p R s m args meth c G jb_Pr_group 4 D "SluicePit$PartReader") (F : jF G = false) {n : Nat} (gh : (∀ (a0 : Nat) (a1 : Int32) (hp0 : jkd a0 3) (M : SM) (q : (Int32 × SM)), (gf.1 a0 a1 M) = some q → jMet l jy_Pr_part jb_Pr_part 4 (some FieldType.boolean) (9 + n) 0 0 G [.ref a0, .int a1] jN0 (jce G M) (some (.int q.1)) jN0 (jce G q.2)) ∧ (∀ (a0 : Nat) (a1 : Int32) (hp0 : jkd a0 3) (M : SM) (q : (Int32 × SM)), (gf.2 a0 a1 M) = some q → jMet l jy_Pr_group jb_Pr_group 4 (some FieldType.boolean) (9 + n) 0 0 G [.ref a0, .int a1] jN0 (jce G M) (some (.int q.1)) jN0 (jce G q.2))) (hD : 9 + n + 1 ≤ D) (a0 : Nat) (a1 : Int32) (hp0 : jkd a0 3) (M : SM) (X : (Int32 × SM) → Prop) (hR : ∀ v M', X (v, M') → ∀ (pc : Nat) (ls : List (Option Value)), decode jb_Pr_group pc = .ok (.ireturn, 1) → narrow FieldType.boolean (.int v) = .int v → Wk p l e R s m args below meth c G 4 Q 0 0 jN0 (jce G M') pc ls [.int v]) : J X (fb_Pr_group gf a0 a1 M) (Wk p l e R s m args below meth c G 4 Q 0 0 jN0 (jce G M) 0 [some (.ref a0), some (.int a1), none, none] []) := by
  unfold fb_Pr_group
  refine J_mono (w_aload_n C (jd jdt_Pr_group 0 rfl) rfl) ?_
  refine J_mono (jg_Pr_9 C hp0 (jd jdt_Pr_group 1 rfl)) ?_
  refine J_mono (w_bipush_40 C (jd jdt_Pr_group 2 rfl)) ?_
  refine J_bind (fun q1 hq1 => ?_)
  refine J_mono (jc_Pr_43 C (jkf_3_0 hp0) (C_Re_isSign l G F (jpf a0 0) 40 (jkf_3_0 hp0) M hq1) rfl (by omega) (jd jdt_Pr_group 3 rfl)) ?_
  refine J_br (w_if_ne (y := 0) C (jd jdt_Pr_group 4 rfl) rfl) (fun h2 => J_pos h2 ?_) (fun h2 => J_neg h2 ?_)
  · refine J_mono (w_aload_n C (jd jdt_Pr_group 5 rfl) rfl) ?_
    refine J_bind (fun q3 hq3 => ?_)
    refine J_mono (jc_Pr_47 C hp0 (C_Pr_addLetters l G F a0 hp0 M hq3) rfl (by omega) (jd jdt_Pr_group 6 rfl)) ?_
    refine J_mono (w_aload_n C (jd jdt_Pr_group 7 rfl) rfl) ?_
    refine J_mono (jg_Pr_9 C hp0 (jd jdt_Pr_group 8 rfl)) ?_
    refine J_bind (fun q4 hq4 => ?_)
    refine J_mono (jc_Pr_50 C (jkf_3_0 hp0) (C_Re_step l G F (jpf a0 0) (jkf_3_0 hp0) q3 hq4) rfl (by omega) (jd jdt_Pr_group 9 rfl)) ?_
    refine J_mono (w_iconst_1 C (jd jdt_Pr_group 10 rfl)) ?_
    exact J_some (fun hx => hR 1 q4 hx _ _ (jd jdt_Pr_group 11 rfl) rfl)
  · refine J_mono (w_iload_n C (jd jdt_Pr_group 12 rfl) rfl) ?_
    refine J_mono (w_iconst_5 C (jd jdt_Pr_group 13 rfl)) ?_
    refine J_br (w_icmp_lt C (jd jdt_Pr_group 14 rfl) rfl) (fun h5 => J_pos h5 ?_) (fun h5 => J_neg h5 ?_)
    · refine J_mono (w_aload_n C (jd jdt_Pr_group 23 rfl) rfl) ?_
      refine J_mono (jg_Pr_19 C hp0 (jd jdt_Pr_group 24 rfl)) ?_
      refine J_mono (w_istore_n (ls' := [some (.ref a0), some (.int a1), some (.int (M.1 a0 2)), none]) C (jd jdt_Pr_group 25 rfl) (by decide) rfl rfl) ?_
      refine J_mono (w_aload_n C (jd jdt_Pr_group 26 rfl) rfl) ?_
      refine J_mono (jg_Pr_9 C hp0 (jd jdt_Pr_group 27 rfl)) ?_
      refine J_bind (fun q6 hq6 => ?_)
      refine J_mono (jc_Pr_50 C (jkf_3_0 hp0) (C_Re_step l G F (jpf a0 0) (jkf_3_0 hp0) M hq6) rfl (by omega) (jd jdt_Pr_group 28 rfl)) ?_
      refine J_mono (w_aload_n C (jd jdt_Pr_group 29 rfl) rfl) ?_
      refine J_mono (w_iload_n C (jd jdt_Pr_group 30 rfl) rfl) ?_
      refine J_mono (w_iconst_1 C (jd jdt_Pr_group 31 rfl)) ?_
      refine J_mono (w_iadd C (jd jdt_Pr_group 32 rfl)) ?_
      refine J_bind (fun q7 hq7 => ?_)
      refine J_mono (jc_Pr_53 C hp0 (gh.1 a0 (a1 + 1) hp0 q6 _ hq7) rfl (by omega) (jd jdt_Pr_group 33 rfl)) ?_
      refine J_br (w_if_eq (y := 0) C (jd jdt_Pr_group 34 rfl) rfl) (fun h8 => J_pos h8 ?_) (fun h8 => J_neg h8 ?_)
      · refine J_mono (w_iconst_0 C (jd jdt_Pr_group 45 rfl)) ?_
        exact J_some (fun hx => hR 0 q7.2 hx _ _ (jd jdt_Pr_group 46 rfl) rfl)
      · refine J_mono (w_aload_n C (jd jdt_Pr_group 35 rfl) rfl) ?_
        refine J_mono (jg_Pr_9 C hp0 (jd jdt_Pr_group 36 rfl)) ?_
        refine J_mono (w_bipush_41 C (jd jdt_Pr_group 37 rfl)) ?_
        refine J_bind (fun q9 hq9 => ?_)
        refine J_mono (jc_Pr_56 C (jkf_3_0 hp0) (C_Re_takeSign l G F (jpf a0 0) 41 (jkf_3_0 hp0) q7.2 hq9) rfl (by omega) (jd jdt_Pr_group 38 rfl)) ?_
        refine J_br (w_if_eq (y := 0) C (jd jdt_Pr_group 39 rfl) rfl) (fun h10 => J_pos h10 ?_) (fun h10 => J_neg h10 ?_)
        · refine J_mono (w_iconst_0 C (jd jdt_Pr_group 45 rfl)) ?_
          exact J_some (fun hx => hR 0 q9.2 hx _ _ (jd jdt_Pr_group 46 rfl) rfl)
        · refine J_mono (w_aload_n C (jd jdt_Pr_group 40 rfl) rfl) ?_
          refine J_mono (jg_Pr_9 C hp0 (jd jdt_Pr_group 41 rfl)) ?_
          refine J_mono (w_ldcS (i := 7) C rfl (jd jdt_Pr_group 42 rfl)) ?_
          refine J_bind (fun q11 hq11 => ?_)
          refine J_mono (jc_Pr_61 C (jkf_3_0 hp0) (C_Re_takeWord l G F (jpf a0 0) 1007 (jkf_3_0 hp0) (jks_of 7) q9.2 hq11) rfl (by omega) (jd jdt_Pr_group 43 rfl)) ?_
          refine J_br (w_if_ne (y := 0) C (jd jdt_Pr_group 44 rfl) rfl) (fun h12 => J_pos h12 ?_) (fun h12 => J_neg h12 ?_)
          · refine J_mono (w_iconst_0 C (jd jdt_Pr_group 45 rfl)) ?_
            exact J_some (fun hx => hR 0 q11.2 hx _ _ (jd jdt_Pr_group 46 rfl) rfl)
          · refine J_mono (w_aload_n C (jd jdt_Pr_group 47 rfl) rfl) ?_
            refine J_mono (jg_Pr_9 C hp0 (jd jdt_Pr_group 48 rfl)) ?_
            refine J_mono (w_iconst_2 C (jd jdt_Pr_group 49 rfl)) ?_
            refine J_mono (w_bipush_9 C (jd jdt_Pr_group 50 rfl)) ?_
            refine J_bind (fun q13 hq13 => ?_)
            refine J_mono (jc_Pr_65 C (jkf_3_0 hp0) (C_Re_takeNumber l G F (jpf a0 0) 2 9 (jkf_3_0 hp0) q11.2 hq13) rfl (by omega) (jd jdt_Pr_group 51 rfl)) ?_
            refine J_mono (w_istore_n (ls' := [some (.ref a0), some (.int a1), some (.int (M.1 a0 2)), some (.int q13.1)]) C (jd jdt_Pr_group 52 rfl) (by decide) rfl rfl) ?_
            refine J_mono (w_iload_n C (jd jdt_Pr_group 53 rfl) rfl) ?_
            refine J_br (w_if_ge (y := 0) C (jd jdt_Pr_group 54 rfl) rfl) (fun h14 => J_pos h14 ?_) (fun h14 => J_neg h14 ?_)
            · refine J_mono (w_iconst_0 C (jd jdt_Pr_group 55 rfl)) ?_
              exact J_some (fun hx => hR 0 q13.2 hx _ _ (jd jdt_Pr_group 56 rfl) rfl)
            · refine J_mono (w_aload_n C (jd jdt_Pr_group 57 rfl) rfl) ?_
              refine J_mono (w_iload_n C (jd jdt_Pr_group 58 rfl) rfl) ?_
              refine J_mono (w_iload_n C (jd jdt_Pr_group 59 rfl) rfl) ?_
              refine J_bind (fun q15 hq15 => ?_)
              refine J_mono (jc_Pr_69 C hp0 (C_Pr_repeat l G F a0 (M.1 a0 2) q13.1 hp0 q13.2 hq15) rfl (by omega) (jd jdt_Pr_group 60 rfl)) ?_
              refine J_mono (w_iconst_1 C (jd jdt_Pr_group 61 rfl)) ?_
              exact J_some (fun hx => hR 1 q15 hx _ _ (jd jdt_Pr_group 62 rfl) rfl)
    · refine J_mono (w_aload_n C (jd jdt_Pr_group 15 rfl) rfl) ?_
      refine J_mono (jg_Pr_9 C hp0 (jd jdt_Pr_group 16 rfl)) ?_
      refine J_mono (w_iconst_4 C (jd jdt_Pr_group 17 rfl)) ?_
      refine J_mono (w_aload_n C (jd jdt_Pr_group 18 rfl) rfl) ?_
      refine J_mono (jg_Pr_9 C hp0 (jd jdt_Pr_group 19 rfl)) ?_
      refine J_mono (jg_Pr_32 C (jkf_3_0 hp0) (jd jdt_Pr_group 20 rfl)) ?_
      refine J_bind (fun q16 hq16 => ?_)
      refine J_mono (jc_Pr_39 C (jkf_3_0 hp0) (C_Re_fail l G F (jpf a0 0) 4 (M.1 (jpf a0 0) 3) (jkf_3_0 hp0) M hq16) rfl (by omega) (jd jdt_Pr_group 21 rfl)) ?_
      refine J_bind (fun b17 hb17 => ?_)
      obtain rfl := bchk_e hb17
      exact J_some (fun hx => hR _ q16.2 hx _ _ (jd jdt_Pr_group 22 rfl) (bchk_n hb17))
end
def fg_Pr_part : Nat → (Nat → Int32 → SM → Option (Int32 × SM)) × (Nat → Int32 → SM → Option (Int32 × SM))
  | 0 => (fun _ _ _ => none, fun _ _ _ => none)
  | n + 1 => (fb_Pr_part (fg_Pr_part n), fb_Pr_group (fg_Pr_part n))
def f_Pr_part (n : Nat) : (Nat → Int32 → SM → Option (Int32 × SM)) := (fg_Pr_part n).1
def f_Pr_group (n : Nat) : (Nat → Int32 → SM → Option (Int32 × SM)) := (fg_Pr_part n).2
set_option maxHeartbeats 4000000 in
set_option maxRecDepth 20000 in
theorem CG_Pr_part (l : Launch) (G : JG) (F : jF G = false) : ∀ n : Nat, (∀ (a0 : Nat) (a1 : Int32) (hp0 : jkd a0 3) (M : SM) (q : (Int32 × SM)), ((fg_Pr_part n).1 a0 a1 M) = some q → jMet l jy_Pr_part jb_Pr_part 4 (some FieldType.boolean) (9 + n) 0 0 G [.ref a0, .int a1] jN0 (jce G M) (some (.int q.1)) jN0 (jce G q.2)) ∧ (∀ (a0 : Nat) (a1 : Int32) (hp0 : jkd a0 3) (M : SM) (q : (Int32 × SM)), ((fg_Pr_part n).2 a0 a1 M) = some q → jMet l jy_Pr_group jb_Pr_group 4 (some FieldType.boolean) (9 + n) 0 0 G [.ref a0, .int a1] jN0 (jce G M) (some (.int q.1)) jN0 (jce G q.2))
  | 0 => ⟨fun _ _ _ _ _ h => (by cases h), fun _ _ _ _ _ h => (by cases h)⟩
  | n + 1 => by
    have gh := CG_Pr_part l G F n
    refine ⟨?_, ?_⟩
    · intro a0 a1 hp0 M q hf
      exact j_met jo_Pr_part (by omega) (Nat.le_of_ble_eq_true rfl) (fun p e s m args below meth c C hr hm => K_Pr_part (fg_Pr_part n) C F gh (Nat.le_refl _) a0 a1 hp0 M (fun t => t = q) (fun v M' hX pc ls hd hn => by cases hX; exact w_iret C hr hn hd) _ hf rfl)
    · intro a0 a1 hp0 M q hf
      exact j_met jo_Pr_group (by omega) (Nat.le_of_ble_eq_true rfl) (fun p e s m args below meth c C hr hm => K_Pr_group (fg_Pr_part n) C F gh (Nat.le_refl _) a0 a1 hp0 M (fun t => t = q) (fun v M' hX pc ls hd hn => by cases hX; exact w_iret C hr hn hd) _ hf rfl)
theorem C_Pr_part (l : Launch) (G : JG) (F : jF G = false) (n : Nat) (a0 : Nat) (a1 : Int32) (hp0 : jkd a0 3) (M : SM) {q : (Int32 × SM)} (hf : f_Pr_part n a0 a1 M = some q) : jMet l jy_Pr_part jb_Pr_part 4 (some FieldType.boolean) (9 + n) 0 0 G [.ref a0, .int a1] jN0 (jce G M) (some (.int q.1)) jN0 (jce G q.2) := (CG_Pr_part l G F n).1 a0 a1 hp0 M q hf
theorem C_Pr_group (l : Launch) (G : JG) (F : jF G = false) (n : Nat) (a0 : Nat) (a1 : Int32) (hp0 : jkd a0 3) (M : SM) {q : (Int32 × SM)} (hf : f_Pr_group n a0 a1 M = some q) : jMet l jy_Pr_group jb_Pr_group 4 (some FieldType.boolean) (9 + n) 0 0 G [.ref a0, .int a1] jN0 (jce G M) (some (.int q.1)) jN0 (jce G q.2) := (CG_Pr_part l G F n).2 a0 a1 hp0 M q hf
def f_Pa_setSize (a0 : Nat) (a1 : Int32) (a2 : Int32) (M : SM) : Option SM := (f_Sp_put (jpf a0 1) a1 a2 M).bind fun q1 => some q1
section
variable {p : Program} {l : Launch} {e : Env} {R : Room} {s : State} {m : MethodId} {args : Array Value} {below : List Frame} {meth : Method} {c : Code} {G : JG} {D : Nat} {Q : State → Prop}
set_option maxHeartbeats 4000000 in
set_option maxRecDepth 20000 in
theorem K_Pa_setSize (C : jCx p R s m args meth c G jb_Pa_setSize 3 D "SluicePit$Parts") (F : jF G = false) (hD : 2 ≤ D) (a0 : Nat) (a1 : Int32) (a2 : Int32) (hp0 : jkd a0 4) (M : SM) (X : SM → Prop) (hR : ∀ M', X M' → ∀ (pc : Nat) (ls : List (Option Value)), decode jb_Pa_setSize pc = .ok (.return_, 1) → Wk p l e R s m args below meth c G 3 Q 0 0 jN0 (jce G M') pc ls []) : J X (f_Pa_setSize a0 a1 a2 M) (Wk p l e R s m args below meth c G 3 Q 0 0 jN0 (jce G M) 0 [some (.ref a0), some (.int a1), some (.int a2)] []) := by
  unfold f_Pa_setSize
  refine J_mono (w_aload_n C (jd jdt_Pa_setSize 0 rfl) rfl) ?_
  refine J_mono (jg_Pa_16 C hp0 (jd jdt_Pa_setSize 1 rfl)) ?_
  refine J_mono (w_iload_n C (jd jdt_Pa_setSize 2 rfl) rfl) ?_
  refine J_mono (w_iload_n C (jd jdt_Pa_setSize 3 rfl) rfl) ?_
  refine J_bind (fun q1 hq1 => ?_)
  refine J_mono (jc_Pa_24 C (C_Sp_put l G F (jpf a0 1) a1 a2 (jkf_4_1 hp0) M hq1) rfl (Nat.le_trans (Nat.le_of_ble_eq_true rfl : 1 + 1 ≤ 2) hD) (jd jdt_Pa_setSize 4 rfl)) ?_
  exact J_some (fun hx => hR q1 hx _ _ (jd jdt_Pa_setSize 5 rfl))
end
theorem C_Pa_setSize (l : Launch) (G : JG) (F : jF G = false) (a0 : Nat) (a1 : Int32) (a2 : Int32) (hp0 : jkd a0 4) (M : SM) {q : SM} (hf : f_Pa_setSize a0 a1 a2 M = some q) : jMet l jy_Pa_setSize jb_Pa_setSize 3 none 2 0 0 G [.ref a0, .int a1, .int a2] jN0 (jce G M) none jN0 (jce G q) :=
  j_met jo_Pa_setSize (by decide) (Nat.le_of_ble_eq_true rfl) (fun p e s m args below meth c C hr hm => K_Pa_setSize C F (Nat.le_refl _) a0 a1 a2 hp0 M (fun t => t = q) (fun M' hX pc ls hd => by cases hX; exact w_vret C hr hd) _ hf rfl)
def lp_Pa_setPart_3 (y0 : Nat) (y1 : Int32) (y2 : Nat) (y3 : Int32) : Nat → Int32 → SM → Option (SM)
  | 0, _, _ => none
  | n + 1, x4, M => if x4 < y3 then ((f_Sp_at y2 x4 M).bind fun q2 => (f_Sp_putCell (jpf y0 0) y1 x4 q2 M).bind fun q3 => lp_Pa_setPart_3 y0 y1 y2 y3 n (x4 + 1) q3) else (some M)
def f_Pa_setPart (a0 : Nat) (a1 : Int32) (a2 : Nat) (a3 : Int32) (M : SM) : Option SM := (lp_Pa_setPart_3 a0 a1 a2 a3 jfuel 0 M).bind fun q4 => (f_Pa_setSize a0 a1 a3 q4).bind fun q5 => some q5
section
variable {p : Program} {l : Launch} {e : Env} {R : Room} {s : State} {m : MethodId} {args : Array Value} {below : List Frame} {meth : Method} {c : Code} {G : JG} {D : Nat} {Q : State → Prop}
set_option maxHeartbeats 4000000 in
set_option maxRecDepth 20000 in
theorem K_Pa_setPart (C : jCx p R s m args meth c G jb_Pa_setPart 5 D "SluicePit$Parts") (F : jF G = false) (hD : 3 ≤ D) (a0 : Nat) (a1 : Int32) (a2 : Nat) (a3 : Int32) (hp0 : jkd a0 4) (hp2 : jkd a2 100) (M : SM) (X : SM → Prop) (hR : ∀ M', X M' → ∀ (pc : Nat) (ls : List (Option Value)), decode jb_Pa_setPart pc = .ok (.return_, 1) → Wk p l e R s m args below meth c G 5 Q 0 0 jN0 (jce G M') pc ls []) : J X (f_Pa_setPart a0 a1 a2 a3 M) (Wk p l e R s m args below meth c G 5 Q 0 0 jN0 (jce G M) 0 [some (.ref a0), some (.int a1), some (.ref a2), some (.int a3), none] []) := by
  unfold f_Pa_setPart
  refine J_mono (w_iconst_0 C (jd jdt_Pa_setPart 0 rfl)) ?_
  refine J_mono (w_istore (ls' := [some (.ref a0), some (.int a1), some (.ref a2), some (.int a3), some (.int 0)]) C (jd jdt_Pa_setPart 1 rfl) (by decide) rfl rfl) ?_
  have L3 : ∀ (y0 : Nat) (y1 : Int32) (y2 : Nat) (y3 : Int32) (hy0 : jkd y0 4) (hy2 : jkd y2 100) (n : Nat) (x4 : Int32) (M : SM), J (fun (q4 : SM) => Wk p l e R s m args below meth c G 5 Q 0 0 jN0 (jce G q4) 31 [some (.ref y0), some (.int y1), none, some (.int y3), none] []) (lp_Pa_setPart_3 y0 y1 y2 y3 n x4 M) (Wk p l e R s m args below meth c G 5 Q 0 0 jN0 (jce G M) 3 [some (.ref y0), some (.int y1), some (.ref y2), some (.int y3), some (.int x4)] []) := by
    intro y0 y1 y2 y3 hy0 hy2 n
    induction n with
    | zero => intro x4 M; exact J_none
    | succ n ih =>
      intro x4 M
      unfold lp_Pa_setPart_3
      refine J_mono (w_iload C (jd jdt_Pa_setPart 2 rfl) rfl) ?_
      refine J_mono (w_iload_n C (jd jdt_Pa_setPart 3 rfl) rfl) ?_
      refine J_br (w_icmp_ge C (jd jdt_Pa_setPart 4 rfl) rfl) (fun h1 => J_pos h1 ?_) (fun h1 => J_neg h1 ?_)
      · refine J_mono (w_aload_n C (jd jdt_Pa_setPart 5 rfl) rfl) ?_
        refine J_mono (jg_Pa_11 C hy0 (jd jdt_Pa_setPart 6 rfl)) ?_
        refine J_mono (w_iload_n C (jd jdt_Pa_setPart 7 rfl) rfl) ?_
        refine J_mono (w_iload C (jd jdt_Pa_setPart 8 rfl) rfl) ?_
        refine J_mono (w_aload_n C (jd jdt_Pa_setPart 9 rfl) rfl) ?_
        refine J_mono (w_iload C (jd jdt_Pa_setPart 10 rfl) rfl) ?_
        refine J_bind (fun q2 hq2 => ?_)
        refine J_mono (jc_Pa_20 C (C_Sp_at l G F y2 x4 hy2 M hq2) rfl (Nat.le_trans (Nat.le_of_ble_eq_true rfl : 1 + 1 ≤ 3) hD) (jd jdt_Pa_setPart 11 rfl)) ?_
        refine J_bind (fun q3 hq3 => ?_)
        refine J_mono (jc_Pa_32 C (C_Sp_putCell l G F (jpf y0 0) y1 x4 q2 (jkf_4_0 hy0) M hq3) rfl (Nat.le_trans (Nat.le_of_ble_eq_true rfl : 1 + 1 ≤ 3) hD) (jd jdt_Pa_setPart 12 rfl)) ?_
        refine J_mono (w_iinc (v := x4 + 1) (ls' := [some (.ref y0), some (.int y1), some (.ref y2), some (.int y3), some (.int (x4 + 1))]) C (jd jdt_Pa_setPart 13 rfl) rfl rfl (by decide) rfl rfl) ?_
        refine J_mono (w_goto C (jd jdt_Pa_setPart 14 rfl) rfl) ?_
        exact J_sub (ih (x4 + 1) q3) ⟨rfl, rfl, rfl, rfl, rfl, trivial⟩
      · exact J_some (fun hx => Wk_sb hx ⟨rfl, rfl, rfl, trivial⟩)
  refine J_seq (fun (q4 : SM) => Wk p l e R s m args below meth c G 5 Q 0 0 jN0 (jce G q4) 31 [some (.ref a0), some (.int a1), none, some (.int a3), none] []) (J_sub (L3 a0 a1 a2 a3 hp0 hp2 jfuel 0 M) ⟨rfl, rfl, rfl, rfl, rfl, trivial⟩) (fun q4 hq4 => ?_)
  refine J_mono (w_aload_n C (jd jdt_Pa_setPart 15 rfl) rfl) ?_
  refine J_mono (w_iload_n C (jd jdt_Pa_setPart 16 rfl) rfl) ?_
  refine J_mono (w_iload_n C (jd jdt_Pa_setPart 17 rfl) rfl) ?_
  refine J_bind (fun q5 hq5 => ?_)
  refine J_mono (jc_Pa_36 C hp0 (C_Pa_setSize l G F a0 a1 a3 hp0 q4 hq5) rfl (Nat.le_trans (Nat.le_of_ble_eq_true rfl : 2 + 1 ≤ 3) hD) (jd jdt_Pa_setPart 18 rfl)) ?_
  exact J_some (fun hx => hR q5 hx _ _ (jd jdt_Pa_setPart 19 rfl))
end
theorem C_Pa_setPart (l : Launch) (G : JG) (F : jF G = false) (a0 : Nat) (a1 : Int32) (a2 : Nat) (a3 : Int32) (hp0 : jkd a0 4) (hp2 : jkd a2 100) (M : SM) {q : SM} (hf : f_Pa_setPart a0 a1 a2 a3 M = some q) : jMet l jy_Pa_setPart jb_Pa_setPart 5 none 3 0 0 G [.ref a0, .int a1, .ref a2, .int a3] jN0 (jce G M) none jN0 (jce G q) :=
  j_met jo_Pa_setPart (by decide) (Nat.le_of_ble_eq_true rfl) (fun p e s m args below meth c C hr hm => K_Pa_setPart C F (Nat.le_refl _) a0 a1 a2 a3 hp0 hp2 M (fun t => t = q) (fun M' hX pc ls hd => by cases hX; exact w_vret C hr hd) _ hf rfl)
def f_Or_takeDesk (a0 : Nat) (M : SM) : Option (Int32 × SM) := (f_Or_takeName a0 0 M).bind fun q1 => if q1.1 = 0 then (some (0, q1.2)) else ((f_Re_takeWord (jpf a0 0) 1004 q1.2).bind fun q3 => if q3.1 = 0 then (some (0, q3.2)) else ((f_Re_takeNumber (jpf a0 0) 1 9 q3.2).bind fun q5 => if q5.1 < 0 then (some (0, q5.2)) else ((f_Re_takeWord (jpf a0 0) 1005 q5.2).bind fun q7 => if q7.1 = 0 then (some (0, q7.2)) else (((f_Pr_part 40) (jpf a0 1) 0 (sI q7.2 (jpf a0 1) 2 0)).bind fun q9 => if q9.1 = 0 then (some (0, q9.2)) else ((f_Sp_put (jpf (jop (q9.2.1 a0 2)) 8) (q9.2.1 (jop (q9.2.1 a0 2)) 4) q5.1 q9.2).bind fun q11 => (f_Pa_setPart (jpf (jop (q11.1 a0 2)) 13) (q11.1 (jop (q11.1 a0 2)) 4) (jpf (jpf a0 1) 1) (q11.1 (jpf a0 1) 2) q11).bind fun q12 => some (1, sI q12 (jop (q12.1 a0 2)) 4 ((q12.1 (jop (q12.1 a0 2)) 4) + 1)))))))
section
variable {p : Program} {l : Launch} {e : Env} {R : Room} {s : State} {m : MethodId} {args : Array Value} {below : List Frame} {meth : Method} {c : Code} {G : JG} {D : Nat} {Q : State → Prop}
set_option maxHeartbeats 4000000 in
set_option maxRecDepth 20000 in
theorem K_Or_takeDesk (C : jCx p R s m args meth c G jb_Or_takeDesk 2 D "SluicePit$OperaReader") (F : jF G = false) (hD : 50 ≤ D) (a0 : Nat) (hp0 : jkd a0 2) (M : SM) (X : (Int32 × SM) → Prop) (hR : ∀ v M', X (v, M') → ∀ (pc : Nat) (ls : List (Option Value)), decode jb_Or_takeDesk pc = .ok (.ireturn, 1) → narrow FieldType.boolean (.int v) = .int v → Wk p l e R s m args below meth c G 2 Q 0 0 jN0 (jce G M') pc ls [.int v]) : J X (f_Or_takeDesk a0 M) (Wk p l e R s m args below meth c G 2 Q 0 0 jN0 (jce G M) 0 [some (.ref a0), none] []) := by
  unfold f_Or_takeDesk
  refine J_mono (w_aload_n C (jd jdt_Or_takeDesk 0 rfl) rfl) ?_
  refine J_mono (w_iconst_0 C (jd jdt_Or_takeDesk 1 rfl)) ?_
  refine J_bind (fun q1 hq1 => ?_)
  refine J_mono (jc_Or_144 C hp0 (C_Or_takeName l G F a0 0 hp0 M hq1) rfl (Nat.le_trans (Nat.le_of_ble_eq_true rfl : 9 + 1 ≤ 50) hD) (jd jdt_Or_takeDesk 2 rfl)) ?_
  refine J_br (w_if_eq (y := 0) C (jd jdt_Or_takeDesk 3 rfl) rfl) (fun h2 => J_pos h2 ?_) (fun h2 => J_neg h2 ?_)
  · refine J_mono (w_iconst_0 C (jd jdt_Or_takeDesk 9 rfl)) ?_
    exact J_some (fun hx => hR 0 q1.2 hx _ _ (jd jdt_Or_takeDesk 10 rfl) rfl)
  · refine J_mono (w_aload_n C (jd jdt_Or_takeDesk 4 rfl) rfl) ?_
    refine J_mono (jg_Or_9 C hp0 (jd jdt_Or_takeDesk 5 rfl)) ?_
    refine J_mono (w_ldcS (i := 4) C rfl (jd jdt_Or_takeDesk 6 rfl)) ?_
    refine J_bind (fun q3 hq3 => ?_)
    refine J_mono (jc_Or_57 C (jkf_2_0 hp0) (C_Re_takeWord l G F (jpf a0 0) 1004 (jkf_2_0 hp0) (jks_of 4) q1.2 hq3) rfl (Nat.le_trans (Nat.le_of_ble_eq_true rfl : 8 + 1 ≤ 50) hD) (jd jdt_Or_takeDesk 7 rfl)) ?_
    refine J_br (w_if_ne (y := 0) C (jd jdt_Or_takeDesk 8 rfl) rfl) (fun h4 => J_pos h4 ?_) (fun h4 => J_neg h4 ?_)
    · refine J_mono (w_iconst_0 C (jd jdt_Or_takeDesk 9 rfl)) ?_
      exact J_some (fun hx => hR 0 q3.2 hx _ _ (jd jdt_Or_takeDesk 10 rfl) rfl)
    · refine J_mono (w_aload_n C (jd jdt_Or_takeDesk 11 rfl) rfl) ?_
      refine J_mono (jg_Or_9 C hp0 (jd jdt_Or_takeDesk 12 rfl)) ?_
      refine J_mono (w_iconst_1 C (jd jdt_Or_takeDesk 13 rfl)) ?_
      refine J_mono (w_bipush_9 C (jd jdt_Or_takeDesk 14 rfl)) ?_
      refine J_bind (fun q5 hq5 => ?_)
      refine J_mono (jc_Or_61 C (jkf_2_0 hp0) (C_Re_takeNumber l G F (jpf a0 0) 1 9 (jkf_2_0 hp0) q3.2 hq5) rfl (Nat.le_trans (Nat.le_of_ble_eq_true rfl : 3 + 1 ≤ 50) hD) (jd jdt_Or_takeDesk 15 rfl)) ?_
      refine J_mono (w_istore_n (ls' := [some (.ref a0), some (.int q5.1)]) C (jd jdt_Or_takeDesk 16 rfl) (by decide) rfl rfl) ?_
      refine J_mono (w_iload_n C (jd jdt_Or_takeDesk 17 rfl) rfl) ?_
      refine J_br (w_if_lt (y := 0) C (jd jdt_Or_takeDesk 18 rfl) rfl) (fun h6 => J_pos h6 ?_) (fun h6 => J_neg h6 ?_)
      · refine J_mono (w_iconst_0 C (jd jdt_Or_takeDesk 24 rfl)) ?_
        exact J_some (fun hx => hR 0 q5.2 hx _ _ (jd jdt_Or_takeDesk 25 rfl) rfl)
      · refine J_mono (w_aload_n C (jd jdt_Or_takeDesk 19 rfl) rfl) ?_
        refine J_mono (jg_Or_9 C hp0 (jd jdt_Or_takeDesk 20 rfl)) ?_
        refine J_mono (w_ldcS (i := 5) C rfl (jd jdt_Or_takeDesk 21 rfl)) ?_
        refine J_bind (fun q7 hq7 => ?_)
        refine J_mono (jc_Or_57 C (jkf_2_0 hp0) (C_Re_takeWord l G F (jpf a0 0) 1005 (jkf_2_0 hp0) (jks_of 5) q5.2 hq7) rfl (Nat.le_trans (Nat.le_of_ble_eq_true rfl : 8 + 1 ≤ 50) hD) (jd jdt_Or_takeDesk 22 rfl)) ?_
        refine J_br (w_if_ne (y := 0) C (jd jdt_Or_takeDesk 23 rfl) rfl) (fun h8 => J_pos h8 ?_) (fun h8 => J_neg h8 ?_)
        · refine J_mono (w_iconst_0 C (jd jdt_Or_takeDesk 24 rfl)) ?_
          exact J_some (fun hx => hR 0 q7.2 hx _ _ (jd jdt_Or_takeDesk 25 rfl) rfl)
        · refine J_mono (w_aload_n C (jd jdt_Or_takeDesk 26 rfl) rfl) ?_
          refine J_mono (jg_Or_15 C hp0 (jd jdt_Or_takeDesk 27 rfl)) ?_
          refine J_mono (w_iconst_0 C (jd jdt_Or_takeDesk 28 rfl)) ?_
          refine J_mono (jp_Or_151 C F (jkf_2_1 hp0) (jd jdt_Or_takeDesk 29 rfl)) ?_
          refine J_mono (w_aload_n C (jd jdt_Or_takeDesk 30 rfl) rfl) ?_
          refine J_mono (jg_Or_15 C hp0 (jd jdt_Or_takeDesk 31 rfl)) ?_
          refine J_mono (w_iconst_0 C (jd jdt_Or_takeDesk 32 rfl)) ?_
          refine J_bind (fun q9 hq9 => ?_)
          refine J_mono (jc_Or_156 C (jkf_2_1 hp0) (C_Pr_part l G F 40 (jpf a0 1) 0 (jkf_2_1 hp0) (sI q7.2 (jpf a0 1) 2 0) hq9) rfl (Nat.le_trans (Nat.le_of_ble_eq_true rfl : 49 + 1 ≤ 50) hD) (jd jdt_Or_takeDesk 33 rfl)) ?_
          refine J_br (w_if_ne (y := 0) C (jd jdt_Or_takeDesk 34 rfl) rfl) (fun h10 => J_pos h10 ?_) (fun h10 => J_neg h10 ?_)
          · refine J_mono (w_iconst_0 C (jd jdt_Or_takeDesk 35 rfl)) ?_
            exact J_some (fun hx => hR 0 q9.2 hx _ _ (jd jdt_Or_takeDesk 36 rfl) rfl)
          · refine J_mono (w_aload_n C (jd jdt_Or_takeDesk 37 rfl) rfl) ?_
            refine J_mono (jg_Or_19 C hp0 (jd jdt_Or_takeDesk 38 rfl)) ?_
            refine J_mono (jg_Or_159 C (jop_kd _) (jd jdt_Or_takeDesk 39 rfl)) ?_
            refine J_mono (w_aload_n C (jd jdt_Or_takeDesk 40 rfl) rfl) ?_
            refine J_mono (jg_Or_19 C hp0 (jd jdt_Or_takeDesk 41 rfl)) ?_
            refine J_mono (jg_Or_127 C (jop_kd _) (jd jdt_Or_takeDesk 42 rfl)) ?_
            refine J_mono (w_iload_n C (jd jdt_Or_takeDesk 43 rfl) rfl) ?_
            refine J_bind (fun q11 hq11 => ?_)
            refine J_mono (jc_Or_140 C (C_Sp_put l G F (jpf (jop (q9.2.1 a0 2)) 8) (q9.2.1 (jop (q9.2.1 a0 2)) 4) q5.1 (jkf_1_8 (jop_kd _)) q9.2 hq11) rfl (Nat.le_trans (Nat.le_of_ble_eq_true rfl : 1 + 1 ≤ 50) hD) (jd jdt_Or_takeDesk 44 rfl)) ?_
            refine J_mono (w_aload_n C (jd jdt_Or_takeDesk 45 rfl) rfl) ?_
            refine J_mono (jg_Or_19 C hp0 (jd jdt_Or_takeDesk 46 rfl)) ?_
            refine J_mono (jg_Or_161 C (jop_kd _) (jd jdt_Or_takeDesk 47 rfl)) ?_
            refine J_mono (w_aload_n C (jd jdt_Or_takeDesk 48 rfl) rfl) ?_
            refine J_mono (jg_Or_19 C hp0 (jd jdt_Or_takeDesk 49 rfl)) ?_
            refine J_mono (jg_Or_127 C (jop_kd _) (jd jdt_Or_takeDesk 50 rfl)) ?_
            refine J_mono (w_aload_n C (jd jdt_Or_takeDesk 51 rfl) rfl) ?_
            refine J_mono (jg_Or_15 C hp0 (jd jdt_Or_takeDesk 52 rfl)) ?_
            refine J_mono (jg_Or_165 C (jkf_2_1 hp0) (jd jdt_Or_takeDesk 53 rfl)) ?_
            refine J_mono (w_aload_n C (jd jdt_Or_takeDesk 54 rfl) rfl) ?_
            refine J_mono (jg_Or_15 C hp0 (jd jdt_Or_takeDesk 55 rfl)) ?_
            refine J_mono (jg_Or_151 C (jkf_2_1 hp0) (jd jdt_Or_takeDesk 56 rfl)) ?_
            refine J_bind (fun q12 hq12 => ?_)
            refine J_mono (jc_Or_168 C (jkf_1_13 (jop_kd _)) (C_Pa_setPart l G F (jpf (jop (q11.1 a0 2)) 13) (q11.1 (jop (q11.1 a0 2)) 4) (jpf (jpf a0 1) 1) (q11.1 (jpf a0 1) 2) (jkf_1_13 (jop_kd _)) (jkf_3_1 (jkf_2_1 hp0)) q11 hq12) rfl (Nat.le_trans (Nat.le_of_ble_eq_true rfl : 3 + 1 ≤ 50) hD) (jd jdt_Or_takeDesk 57 rfl)) ?_
            refine J_mono (w_aload_n C (jd jdt_Or_takeDesk 58 rfl) rfl) ?_
            refine J_mono (jg_Or_19 C hp0 (jd jdt_Or_takeDesk 59 rfl)) ?_
            refine J_mono (w_dup_r C (jd jdt_Or_takeDesk 60 rfl)) ?_
            refine J_mono (jg_Or_127 C (jop_kd _) (jd jdt_Or_takeDesk 61 rfl)) ?_
            refine J_mono (w_iconst_1 C (jd jdt_Or_takeDesk 62 rfl)) ?_
            refine J_mono (w_iadd C (jd jdt_Or_takeDesk 63 rfl)) ?_
            refine J_mono (jp_Or_127 C F (jop_kd _) (jd jdt_Or_takeDesk 64 rfl)) ?_
            refine J_mono (w_iconst_1 C (jd jdt_Or_takeDesk 65 rfl)) ?_
            exact J_some (fun hx => hR 1 (sI q12 (jop (q12.1 a0 2)) 4 ((q12.1 (jop (q12.1 a0 2)) 4) + 1)) hx _ _ (jd jdt_Or_takeDesk 66 rfl) rfl)
end
theorem C_Or_takeDesk (l : Launch) (G : JG) (F : jF G = false) (a0 : Nat) (hp0 : jkd a0 2) (M : SM) {q : (Int32 × SM)} (hf : f_Or_takeDesk a0 M = some q) : jMet l jy_Or_takeDesk jb_Or_takeDesk 2 (some FieldType.boolean) 50 0 0 G [.ref a0] jN0 (jce G M) (some (.int q.1)) jN0 (jce G q.2) :=
  j_met jo_Or_takeDesk (by decide) (Nat.le_of_ble_eq_true rfl) (fun p e s m args below meth c C hr hm => K_Or_takeDesk C F (Nat.le_refl _) a0 hp0 M (fun t => t = q) (fun v M' hX pc ls hd hn => by cases hX; exact w_iret C hr hn hd) _ hf rfl)
def f_Or_takePit (a0 : Nat) (M : SM) : Option (Int32 × SM) := (f_Or_takeCell a0 M).bind fun q1 => if q1.1 < 0 then (some (0, q1.2)) else (some (1, sI q1.2 (jop (q1.2.1 a0 2)) 2 q1.1))
section
variable {p : Program} {l : Launch} {e : Env} {R : Room} {s : State} {m : MethodId} {args : Array Value} {below : List Frame} {meth : Method} {c : Code} {G : JG} {D : Nat} {Q : State → Prop}
set_option maxHeartbeats 4000000 in
set_option maxRecDepth 20000 in
theorem K_Or_takePit (C : jCx p R s m args meth c G jb_Or_takePit 2 D "SluicePit$OperaReader") (F : jF G = false) (hD : 5 ≤ D) (a0 : Nat) (hp0 : jkd a0 2) (M : SM) (X : (Int32 × SM) → Prop) (hR : ∀ v M', X (v, M') → ∀ (pc : Nat) (ls : List (Option Value)), decode jb_Or_takePit pc = .ok (.ireturn, 1) → narrow FieldType.boolean (.int v) = .int v → Wk p l e R s m args below meth c G 2 Q 0 0 jN0 (jce G M') pc ls [.int v]) : J X (f_Or_takePit a0 M) (Wk p l e R s m args below meth c G 2 Q 0 0 jN0 (jce G M) 0 [some (.ref a0), none] []) := by
  unfold f_Or_takePit
  refine J_mono (w_aload_n C (jd jdt_Or_takePit 0 rfl) rfl) ?_
  refine J_bind (fun q1 hq1 => ?_)
  refine J_mono (jc_Or_136 C hp0 (C_Or_takeCell l G F a0 hp0 M hq1) rfl (Nat.le_trans (Nat.le_of_ble_eq_true rfl : 4 + 1 ≤ 5) hD) (jd jdt_Or_takePit 1 rfl)) ?_
  refine J_mono (w_istore_n (ls' := [some (.ref a0), some (.int q1.1)]) C (jd jdt_Or_takePit 2 rfl) (by decide) rfl rfl) ?_
  refine J_mono (w_iload_n C (jd jdt_Or_takePit 3 rfl) rfl) ?_
  refine J_br (w_if_ge (y := 0) C (jd jdt_Or_takePit 4 rfl) rfl) (fun h2 => J_pos h2 ?_) (fun h2 => J_neg h2 ?_)
  · refine J_mono (w_iconst_0 C (jd jdt_Or_takePit 5 rfl)) ?_
    exact J_some (fun hx => hR 0 q1.2 hx _ _ (jd jdt_Or_takePit 6 rfl) rfl)
  · refine J_mono (w_aload_n C (jd jdt_Or_takePit 7 rfl) rfl) ?_
    refine J_mono (jg_Or_19 C hp0 (jd jdt_Or_takePit 8 rfl)) ?_
    refine J_mono (w_iload_n C (jd jdt_Or_takePit 9 rfl) rfl) ?_
    refine J_mono (jp_Or_174 C F (jop_kd _) (jd jdt_Or_takePit 10 rfl)) ?_
    refine J_mono (w_iconst_1 C (jd jdt_Or_takePit 11 rfl)) ?_
    exact J_some (fun hx => hR 1 (sI q1.2 (jop (q1.2.1 a0 2)) 2 q1.1) hx _ _ (jd jdt_Or_takePit 12 rfl) rfl)
end
theorem C_Or_takePit (l : Launch) (G : JG) (F : jF G = false) (a0 : Nat) (hp0 : jkd a0 2) (M : SM) {q : (Int32 × SM)} (hf : f_Or_takePit a0 M = some q) : jMet l jy_Or_takePit jb_Or_takePit 2 (some FieldType.boolean) 5 0 0 G [.ref a0] jN0 (jce G M) (some (.int q.1)) jN0 (jce G q.2) :=
  j_met jo_Or_takePit (by decide) (Nat.le_of_ble_eq_true rfl) (fun p e s m args below meth c C hr hm => K_Or_takePit C F (Nat.le_refl _) a0 hp0 M (fun t => t = q) (fun v M' hX pc ls hd hn => by cases hX; exact w_iret C hr hn hd) _ hf rfl)
def f_Or_takeSluice (a0 : Nat) (M : SM) : Option (Int32 × SM) := (f_Re_takeNumber (jpf a0 0) 0 ((M.1 (jop (M.1 a0 2)) 1) - 2) M).bind fun q1 => if q1.1 < 0 then (some (0, q1.2)) else ((f_Sp_at (jpf (jop (q1.2.1 a0 2)) 7) q1.1 q1.2).bind fun q3 => if q3 = 1 then ((f_Re_fail (jpf a0 0) 2 (M.1 (jpf a0 0) 3) q1.2).bind fun q5 => (bchk q5.1).bind fun b6 => some (b6, q5.2)) else ((f_Sp_put (jpf (jop (q1.2.1 a0 2)) 7) q1.1 1 q1.2).bind fun q7 => some (1, q7)))
section
variable {p : Program} {l : Launch} {e : Env} {R : Room} {s : State} {m : MethodId} {args : Array Value} {below : List Frame} {meth : Method} {c : Code} {G : JG} {D : Nat} {Q : State → Prop}
set_option maxHeartbeats 4000000 in
set_option maxRecDepth 20000 in
theorem K_Or_takeSluice (C : jCx p R s m args meth c G jb_Or_takeSluice 3 D "SluicePit$OperaReader") (F : jF G = false) (hD : 4 ≤ D) (a0 : Nat) (hp0 : jkd a0 2) (M : SM) (X : (Int32 × SM) → Prop) (hR : ∀ v M', X (v, M') → ∀ (pc : Nat) (ls : List (Option Value)), decode jb_Or_takeSluice pc = .ok (.ireturn, 1) → narrow FieldType.boolean (.int v) = .int v → Wk p l e R s m args below meth c G 3 Q 0 0 jN0 (jce G M') pc ls [.int v]) : J X (f_Or_takeSluice a0 M) (Wk p l e R s m args below meth c G 3 Q 0 0 jN0 (jce G M) 0 [some (.ref a0), none, none] []) := by
  unfold f_Or_takeSluice
  refine J_mono (w_aload_n C (jd jdt_Or_takeSluice 0 rfl) rfl) ?_
  refine J_mono (jg_Or_9 C hp0 (jd jdt_Or_takeSluice 1 rfl)) ?_
  refine J_mono (jg_Or_48 C (jkf_2_0 hp0) (jd jdt_Or_takeSluice 2 rfl)) ?_
  refine J_mono (w_istore_n (ls' := [some (.ref a0), some (.int (M.1 (jpf a0 0) 3)), none]) C (jd jdt_Or_takeSluice 3 rfl) (by decide) rfl rfl) ?_
  refine J_mono (w_aload_n C (jd jdt_Or_takeSluice 4 rfl) rfl) ?_
  refine J_mono (jg_Or_9 C hp0 (jd jdt_Or_takeSluice 5 rfl)) ?_
  refine J_mono (w_iconst_0 C (jd jdt_Or_takeSluice 6 rfl)) ?_
  refine J_mono (w_aload_n C (jd jdt_Or_takeSluice 7 rfl) rfl) ?_
  refine J_mono (jg_Or_19 C hp0 (jd jdt_Or_takeSluice 8 rfl)) ?_
  refine J_mono (jg_Or_65 C (jop_kd _) (jd jdt_Or_takeSluice 9 rfl)) ?_
  refine J_mono (w_iconst_2 C (jd jdt_Or_takeSluice 10 rfl)) ?_
  refine J_mono (w_isub C (jd jdt_Or_takeSluice 11 rfl)) ?_
  refine J_bind (fun q1 hq1 => ?_)
  refine J_mono (jc_Or_61 C (jkf_2_0 hp0) (C_Re_takeNumber l G F (jpf a0 0) 0 ((M.1 (jop (M.1 a0 2)) 1) - 2) (jkf_2_0 hp0) M hq1) rfl (Nat.le_trans (Nat.le_of_ble_eq_true rfl : 3 + 1 ≤ 4) hD) (jd jdt_Or_takeSluice 12 rfl)) ?_
  refine J_mono (w_istore_n (ls' := [some (.ref a0), some (.int (M.1 (jpf a0 0) 3)), some (.int q1.1)]) C (jd jdt_Or_takeSluice 13 rfl) (by decide) rfl rfl) ?_
  refine J_mono (w_iload_n C (jd jdt_Or_takeSluice 14 rfl) rfl) ?_
  refine J_br (w_if_ge (y := 0) C (jd jdt_Or_takeSluice 15 rfl) rfl) (fun h2 => J_pos h2 ?_) (fun h2 => J_neg h2 ?_)
  · refine J_mono (w_iconst_0 C (jd jdt_Or_takeSluice 16 rfl)) ?_
    exact J_some (fun hx => hR 0 q1.2 hx _ _ (jd jdt_Or_takeSluice 17 rfl) rfl)
  · refine J_mono (w_aload_n C (jd jdt_Or_takeSluice 18 rfl) rfl) ?_
    refine J_mono (jg_Or_19 C hp0 (jd jdt_Or_takeSluice 19 rfl)) ?_
    refine J_mono (jg_Or_177 C (jop_kd _) (jd jdt_Or_takeSluice 20 rfl)) ?_
    refine J_mono (w_iload_n C (jd jdt_Or_takeSluice 21 rfl) rfl) ?_
    refine J_bind (fun q3 hq3 => ?_)
    refine J_mono (jc_Or_180 C (C_Sp_at l G F (jpf (jop (q1.2.1 a0 2)) 7) q1.1 (jkf_1_7 (jop_kd _)) q1.2 hq3) rfl (Nat.le_trans (Nat.le_of_ble_eq_true rfl : 1 + 1 ≤ 4) hD) (jd jdt_Or_takeSluice 22 rfl)) ?_
    refine J_mono (w_iconst_1 C (jd jdt_Or_takeSluice 23 rfl)) ?_
    refine J_br (w_icmp_ne C (jd jdt_Or_takeSluice 24 rfl) rfl) (fun h4 => J_pos h4 ?_) (fun h4 => J_neg h4 ?_)
    · refine J_mono (w_aload_n C (jd jdt_Or_takeSluice 25 rfl) rfl) ?_
      refine J_mono (jg_Or_9 C hp0 (jd jdt_Or_takeSluice 26 rfl)) ?_
      refine J_mono (w_iconst_2 C (jd jdt_Or_takeSluice 27 rfl)) ?_
      refine J_mono (w_iload_n C (jd jdt_Or_takeSluice 28 rfl) rfl) ?_
      refine J_bind (fun q5 hq5 => ?_)
      refine J_mono (jc_Or_51 C (jkf_2_0 hp0) (C_Re_fail l G F (jpf a0 0) 2 (M.1 (jpf a0 0) 3) (jkf_2_0 hp0) q1.2 hq5) rfl (Nat.le_trans (Nat.le_of_ble_eq_true rfl : 1 + 1 ≤ 4) hD) (jd jdt_Or_takeSluice 29 rfl)) ?_
      refine J_bind (fun b6 hb6 => ?_)
      obtain rfl := bchk_e hb6
      exact J_some (fun hx => hR _ q5.2 hx _ _ (jd jdt_Or_takeSluice 30 rfl) (bchk_n hb6))
    · refine J_mono (w_aload_n C (jd jdt_Or_takeSluice 31 rfl) rfl) ?_
      refine J_mono (jg_Or_19 C hp0 (jd jdt_Or_takeSluice 32 rfl)) ?_
      refine J_mono (jg_Or_177 C (jop_kd _) (jd jdt_Or_takeSluice 33 rfl)) ?_
      refine J_mono (w_iload_n C (jd jdt_Or_takeSluice 34 rfl) rfl) ?_
      refine J_mono (w_iconst_1 C (jd jdt_Or_takeSluice 35 rfl)) ?_
      refine J_bind (fun q7 hq7 => ?_)
      refine J_mono (jc_Or_140 C (C_Sp_put l G F (jpf (jop (q1.2.1 a0 2)) 7) q1.1 1 (jkf_1_7 (jop_kd _)) q1.2 hq7) rfl (Nat.le_trans (Nat.le_of_ble_eq_true rfl : 1 + 1 ≤ 4) hD) (jd jdt_Or_takeSluice 36 rfl)) ?_
      refine J_mono (w_iconst_1 C (jd jdt_Or_takeSluice 37 rfl)) ?_
      exact J_some (fun hx => hR 1 q7 hx _ _ (jd jdt_Or_takeSluice 38 rfl) rfl)
end
theorem C_Or_takeSluice (l : Launch) (G : JG) (F : jF G = false) (a0 : Nat) (hp0 : jkd a0 2) (M : SM) {q : (Int32 × SM)} (hf : f_Or_takeSluice a0 M = some q) : jMet l jy_Or_takeSluice jb_Or_takeSluice 3 (some FieldType.boolean) 4 0 0 G [.ref a0] jN0 (jce G M) (some (.int q.1)) jN0 (jce G q.2) :=
  j_met jo_Or_takeSluice (by decide) (Nat.le_of_ble_eq_true rfl) (fun p e s m args below meth c C hr hm => K_Or_takeSluice C F (Nat.le_refl _) a0 hp0 M (fun t => t = q) (fun v M' hX pc ls hd hn => by cases hX; exact w_iret C hr hn hd) _ hf rfl)
def f_St_add (a0 : Nat) (a1 : Int32) (a2 : Int32) (M : SM) : Option SM := (f_Sp_put (jpf a0 0) (M.1 a0 2) a1 M).bind fun q1 => (f_Sp_put (jpf a0 1) (q1.1 a0 2) a2 q1).bind fun q2 => some (sI q2 a0 2 ((q2.1 a0 2) + 1))
section
variable {p : Program} {l : Launch} {e : Env} {R : Room} {s : State} {m : MethodId} {args : Array Value} {below : List Frame} {meth : Method} {c : Code} {G : JG} {D : Nat} {Q : State → Prop}
set_option maxHeartbeats 4000000 in
set_option maxRecDepth 20000 in
theorem K_St_add (C : jCx p R s m args meth c G jb_St_add 3 D "SluicePit$Stand") (F : jF G = false) (hD : 2 ≤ D) (a0 : Nat) (a1 : Int32) (a2 : Int32) (hp0 : jkd a0 9) (M : SM) (X : SM → Prop) (hR : ∀ M', X M' → ∀ (pc : Nat) (ls : List (Option Value)), decode jb_St_add pc = .ok (.return_, 1) → Wk p l e R s m args below meth c G 3 Q 0 0 jN0 (jce G M') pc ls []) : J X (f_St_add a0 a1 a2 M) (Wk p l e R s m args below meth c G 3 Q 0 0 jN0 (jce G M) 0 [some (.ref a0), some (.int a1), some (.int a2)] []) := by
  unfold f_St_add
  refine J_mono (w_aload_n C (jd jdt_St_add 0 rfl) rfl) ?_
  refine J_mono (jg_St_9 C hp0 (jd jdt_St_add 1 rfl)) ?_
  refine J_mono (w_aload_n C (jd jdt_St_add 2 rfl) rfl) ?_
  refine J_mono (jg_St_18 C hp0 (jd jdt_St_add 3 rfl)) ?_
  refine J_mono (w_iload_n C (jd jdt_St_add 4 rfl) rfl) ?_
  refine J_bind (fun q1 hq1 => ?_)
  refine J_mono (jc_St_26 C (C_Sp_put l G F (jpf a0 0) (M.1 a0 2) a1 (jkf_9_0 hp0) M hq1) rfl (Nat.le_trans (Nat.le_of_ble_eq_true rfl : 1 + 1 ≤ 2) hD) (jd jdt_St_add 5 rfl)) ?_
  refine J_mono (w_aload_n C (jd jdt_St_add 6 rfl) rfl) ?_
  refine J_mono (jg_St_15 C hp0 (jd jdt_St_add 7 rfl)) ?_
  refine J_mono (w_aload_n C (jd jdt_St_add 8 rfl) rfl) ?_
  refine J_mono (jg_St_18 C hp0 (jd jdt_St_add 9 rfl)) ?_
  refine J_mono (w_iload_n C (jd jdt_St_add 10 rfl) rfl) ?_
  refine J_bind (fun q2 hq2 => ?_)
  refine J_mono (jc_St_26 C (C_Sp_put l G F (jpf a0 1) (q1.1 a0 2) a2 (jkf_9_1 hp0) q1 hq2) rfl (Nat.le_trans (Nat.le_of_ble_eq_true rfl : 1 + 1 ≤ 2) hD) (jd jdt_St_add 11 rfl)) ?_
  refine J_mono (w_aload_n C (jd jdt_St_add 12 rfl) rfl) ?_
  refine J_mono (w_dup_r C (jd jdt_St_add 13 rfl)) ?_
  refine J_mono (jg_St_18 C hp0 (jd jdt_St_add 14 rfl)) ?_
  refine J_mono (w_iconst_1 C (jd jdt_St_add 15 rfl)) ?_
  refine J_mono (w_iadd C (jd jdt_St_add 16 rfl)) ?_
  refine J_mono (jp_St_18 C F hp0 (jd jdt_St_add 17 rfl)) ?_
  exact J_some (fun hx => hR (sI q2 a0 2 ((q2.1 a0 2) + 1)) hx _ _ (jd jdt_St_add 18 rfl))
end
theorem C_St_add (l : Launch) (G : JG) (F : jF G = false) (a0 : Nat) (a1 : Int32) (a2 : Int32) (hp0 : jkd a0 9) (M : SM) {q : SM} (hf : f_St_add a0 a1 a2 M = some q) : jMet l jy_St_add jb_St_add 3 none 2 0 0 G [.ref a0, .int a1, .int a2] jN0 (jce G M) none jN0 (jce G q) :=
  j_met jo_St_add (by decide) (Nat.le_of_ble_eq_true rfl) (fun p e s m args below meth c C hr hm => K_St_add C F (Nat.le_refl _) a0 a1 a2 hp0 M (fun t => t = q) (fun M' hX pc ls hd => by cases hX; exact w_vret C hr hd) _ hf rfl)
def f_Or_takeStand (a0 : Nat) (a1 : Nat) (a2 : Int32) (a3 : Nat) (a4 : Int32) (M : SM) : Option (Int32 × SM) := if a2 = (-1) then ((f_Re_takeWord (jpf a0 0) 1002 M).bind fun q2 => if q2.1 = 0 then (some (0, q2.2)) else ((f_Or_takeCell a0 q2.2).bind fun q4 => if q4.1 < 0 then (some (0, q4.2)) else ((f_Re_takeWord (jpf a0 0) a3 q4.2).bind fun q6 => if q6.1 = 0 then (some (0, q6.2)) else ((f_Re_takeNumber (jpf a0 0) 1 a4 q6.2).bind fun q8 => if q8.1 < 0 then (some (0, q8.2)) else ((f_St_add a1 q4.1 q8.1 q8.2).bind fun q10 => some (1, q10)))))) else ((f_Or_takeName a0 a2 M).bind fun q11 => if q11.1 = 0 then (some (0, q11.2)) else ((f_Re_takeWord (jpf a0 0) 1002 q11.2).bind fun q13 => if q13.1 = 0 then (some (0, q13.2)) else ((f_Or_takeCell a0 q13.2).bind fun q15 => if q15.1 < 0 then (some (0, q15.2)) else ((f_Re_takeWord (jpf a0 0) a3 q15.2).bind fun q17 => if q17.1 = 0 then (some (0, q17.2)) else ((f_Re_takeNumber (jpf a0 0) 1 a4 q17.2).bind fun q19 => if q19.1 < 0 then (some (0, q19.2)) else ((f_St_add a1 q15.1 q19.1 q19.2).bind fun q21 => some (1, q21)))))))
section
variable {p : Program} {l : Launch} {e : Env} {R : Room} {s : State} {m : MethodId} {args : Array Value} {below : List Frame} {meth : Method} {c : Code} {G : JG} {D : Nat} {Q : State → Prop}
set_option maxHeartbeats 4000000 in
set_option maxRecDepth 20000 in
theorem K_Or_takeStand (C : jCx p R s m args meth c G jb_Or_takeStand 7 D "SluicePit$OperaReader") (F : jF G = false) (hD : 10 ≤ D) (a0 : Nat) (a1 : Nat) (a2 : Int32) (a3 : Nat) (a4 : Int32) (hp0 : jkd a0 2) (hp1 : jkd a1 9) (hp3 : jks a3) (M : SM) (X : (Int32 × SM) → Prop) (hR : ∀ v M', X (v, M') → ∀ (pc : Nat) (ls : List (Option Value)), decode jb_Or_takeStand pc = .ok (.ireturn, 1) → narrow FieldType.boolean (.int v) = .int v → Wk p l e R s m args below meth c G 7 Q 0 0 jN0 (jce G M') pc ls [.int v]) : J X (f_Or_takeStand a0 a1 a2 a3 a4 M) (Wk p l e R s m args below meth c G 7 Q 0 0 jN0 (jce G M) 0 [some (.ref a0), some (.ref a1), some (.int a2), some (.ref a3), some (.int a4), none, none] []) := by
  unfold f_Or_takeStand
  refine J_mono (w_iload_n C (jd jdt_Or_takeStand 0 rfl) rfl) ?_
  refine J_mono (w_iconst_m1 C (jd jdt_Or_takeStand 1 rfl)) ?_
  refine J_br (w_icmp_eq C (jd jdt_Or_takeStand 2 rfl) rfl) (fun h1 => J_pos h1 ?_) (fun h1 => J_neg h1 ?_)
  · refine J_mono (w_aload_n C (jd jdt_Or_takeStand 7 rfl) rfl) ?_
    refine J_mono (jg_Or_9 C hp0 (jd jdt_Or_takeStand 8 rfl)) ?_
    refine J_mono (w_ldcS (i := 2) C rfl (jd jdt_Or_takeStand 9 rfl)) ?_
    refine J_bind (fun q2 hq2 => ?_)
    refine J_mono (jc_Or_57 C (jkf_2_0 hp0) (C_Re_takeWord l G F (jpf a0 0) 1002 (jkf_2_0 hp0) (jks_of 2) M hq2) rfl (Nat.le_trans (Nat.le_of_ble_eq_true rfl : 8 + 1 ≤ 10) hD) (jd jdt_Or_takeStand 10 rfl)) ?_
    refine J_br (w_if_ne (y := 0) C (jd jdt_Or_takeStand 11 rfl) rfl) (fun h3 => J_pos h3 ?_) (fun h3 => J_neg h3 ?_)
    · refine J_mono (w_iconst_0 C (jd jdt_Or_takeStand 12 rfl)) ?_
      exact J_some (fun hx => hR 0 q2.2 hx _ _ (jd jdt_Or_takeStand 13 rfl) rfl)
    · refine J_mono (w_aload_n C (jd jdt_Or_takeStand 14 rfl) rfl) ?_
      refine J_bind (fun q4 hq4 => ?_)
      refine J_mono (jc_Or_136 C hp0 (C_Or_takeCell l G F a0 hp0 q2.2 hq4) rfl (Nat.le_trans (Nat.le_of_ble_eq_true rfl : 4 + 1 ≤ 10) hD) (jd jdt_Or_takeStand 15 rfl)) ?_
      refine J_mono (w_istore (ls' := [some (.ref a0), some (.ref a1), some (.int a2), some (.ref a3), some (.int a4), some (.int q4.1), none]) C (jd jdt_Or_takeStand 16 rfl) (by decide) rfl rfl) ?_
      refine J_mono (w_iload C (jd jdt_Or_takeStand 17 rfl) rfl) ?_
      refine J_br (w_if_lt (y := 0) C (jd jdt_Or_takeStand 18 rfl) rfl) (fun h5 => J_pos h5 ?_) (fun h5 => J_neg h5 ?_)
      · refine J_mono (w_iconst_0 C (jd jdt_Or_takeStand 24 rfl)) ?_
        exact J_some (fun hx => hR 0 q4.2 hx _ _ (jd jdt_Or_takeStand 25 rfl) rfl)
      · refine J_mono (w_aload_n C (jd jdt_Or_takeStand 19 rfl) rfl) ?_
        refine J_mono (jg_Or_9 C hp0 (jd jdt_Or_takeStand 20 rfl)) ?_
        refine J_mono (w_aload_n C (jd jdt_Or_takeStand 21 rfl) rfl) ?_
        refine J_bind (fun q6 hq6 => ?_)
        refine J_mono (jc_Or_57 C (jkf_2_0 hp0) (C_Re_takeWord l G F (jpf a0 0) a3 (jkf_2_0 hp0) hp3 q4.2 hq6) rfl (Nat.le_trans (Nat.le_of_ble_eq_true rfl : 8 + 1 ≤ 10) hD) (jd jdt_Or_takeStand 22 rfl)) ?_
        refine J_br (w_if_ne (y := 0) C (jd jdt_Or_takeStand 23 rfl) rfl) (fun h7 => J_pos h7 ?_) (fun h7 => J_neg h7 ?_)
        · refine J_mono (w_iconst_0 C (jd jdt_Or_takeStand 24 rfl)) ?_
          exact J_some (fun hx => hR 0 q6.2 hx _ _ (jd jdt_Or_takeStand 25 rfl) rfl)
        · refine J_mono (w_aload_n C (jd jdt_Or_takeStand 26 rfl) rfl) ?_
          refine J_mono (jg_Or_9 C hp0 (jd jdt_Or_takeStand 27 rfl)) ?_
          refine J_mono (w_iconst_1 C (jd jdt_Or_takeStand 28 rfl)) ?_
          refine J_mono (w_iload C (jd jdt_Or_takeStand 29 rfl) rfl) ?_
          refine J_bind (fun q8 hq8 => ?_)
          refine J_mono (jc_Or_61 C (jkf_2_0 hp0) (C_Re_takeNumber l G F (jpf a0 0) 1 a4 (jkf_2_0 hp0) q6.2 hq8) rfl (Nat.le_trans (Nat.le_of_ble_eq_true rfl : 3 + 1 ≤ 10) hD) (jd jdt_Or_takeStand 30 rfl)) ?_
          refine J_mono (w_istore (ls' := [some (.ref a0), some (.ref a1), some (.int a2), some (.ref a3), some (.int a4), some (.int q4.1), some (.int q8.1)]) C (jd jdt_Or_takeStand 31 rfl) (by decide) rfl rfl) ?_
          refine J_mono (w_iload C (jd jdt_Or_takeStand 32 rfl) rfl) ?_
          refine J_br (w_if_ge (y := 0) C (jd jdt_Or_takeStand 33 rfl) rfl) (fun h9 => J_pos h9 ?_) (fun h9 => J_neg h9 ?_)
          · refine J_mono (w_iconst_0 C (jd jdt_Or_takeStand 34 rfl)) ?_
            exact J_some (fun hx => hR 0 q8.2 hx _ _ (jd jdt_Or_takeStand 35 rfl) rfl)
          · refine J_mono (w_aload_n C (jd jdt_Or_takeStand 36 rfl) rfl) ?_
            refine J_mono (w_iload C (jd jdt_Or_takeStand 37 rfl) rfl) ?_
            refine J_mono (w_iload C (jd jdt_Or_takeStand 38 rfl) rfl) ?_
            refine J_bind (fun q10 hq10 => ?_)
            refine J_mono (jc_Or_183 C hp1 (C_St_add l G F a1 q4.1 q8.1 hp1 q8.2 hq10) rfl (Nat.le_trans (Nat.le_of_ble_eq_true rfl : 2 + 1 ≤ 10) hD) (jd jdt_Or_takeStand 39 rfl)) ?_
            refine J_mono (w_iconst_1 C (jd jdt_Or_takeStand 40 rfl)) ?_
            exact J_some (fun hx => hR 1 q10 hx _ _ (jd jdt_Or_takeStand 41 rfl) rfl)
  · refine J_mono (w_aload_n C (jd jdt_Or_takeStand 3 rfl) rfl) ?_
    refine J_mono (w_iload_n C (jd jdt_Or_takeStand 4 rfl) rfl) ?_
    refine J_bind (fun q11 hq11 => ?_)
    refine J_mono (jc_Or_144 C hp0 (C_Or_takeName l G F a0 a2 hp0 M hq11) rfl (Nat.le_trans (Nat.le_of_ble_eq_true rfl : 9 + 1 ≤ 10) hD) (jd jdt_Or_takeStand 5 rfl)) ?_
    refine J_br (w_if_eq (y := 0) C (jd jdt_Or_takeStand 6 rfl) rfl) (fun h12 => J_pos h12 ?_) (fun h12 => J_neg h12 ?_)
    · refine J_mono (w_iconst_0 C (jd jdt_Or_takeStand 12 rfl)) ?_
      exact J_some (fun hx => hR 0 q11.2 hx _ _ (jd jdt_Or_takeStand 13 rfl) rfl)
    · refine J_mono (w_aload_n C (jd jdt_Or_takeStand 7 rfl) rfl) ?_
      refine J_mono (jg_Or_9 C hp0 (jd jdt_Or_takeStand 8 rfl)) ?_
      refine J_mono (w_ldcS (i := 2) C rfl (jd jdt_Or_takeStand 9 rfl)) ?_
      refine J_bind (fun q13 hq13 => ?_)
      refine J_mono (jc_Or_57 C (jkf_2_0 hp0) (C_Re_takeWord l G F (jpf a0 0) 1002 (jkf_2_0 hp0) (jks_of 2) q11.2 hq13) rfl (Nat.le_trans (Nat.le_of_ble_eq_true rfl : 8 + 1 ≤ 10) hD) (jd jdt_Or_takeStand 10 rfl)) ?_
      refine J_br (w_if_ne (y := 0) C (jd jdt_Or_takeStand 11 rfl) rfl) (fun h14 => J_pos h14 ?_) (fun h14 => J_neg h14 ?_)
      · refine J_mono (w_iconst_0 C (jd jdt_Or_takeStand 12 rfl)) ?_
        exact J_some (fun hx => hR 0 q13.2 hx _ _ (jd jdt_Or_takeStand 13 rfl) rfl)
      · refine J_mono (w_aload_n C (jd jdt_Or_takeStand 14 rfl) rfl) ?_
        refine J_bind (fun q15 hq15 => ?_)
        refine J_mono (jc_Or_136 C hp0 (C_Or_takeCell l G F a0 hp0 q13.2 hq15) rfl (Nat.le_trans (Nat.le_of_ble_eq_true rfl : 4 + 1 ≤ 10) hD) (jd jdt_Or_takeStand 15 rfl)) ?_
        refine J_mono (w_istore (ls' := [some (.ref a0), some (.ref a1), some (.int a2), some (.ref a3), some (.int a4), some (.int q15.1), none]) C (jd jdt_Or_takeStand 16 rfl) (by decide) rfl rfl) ?_
        refine J_mono (w_iload C (jd jdt_Or_takeStand 17 rfl) rfl) ?_
        refine J_br (w_if_lt (y := 0) C (jd jdt_Or_takeStand 18 rfl) rfl) (fun h16 => J_pos h16 ?_) (fun h16 => J_neg h16 ?_)
        · refine J_mono (w_iconst_0 C (jd jdt_Or_takeStand 24 rfl)) ?_
          exact J_some (fun hx => hR 0 q15.2 hx _ _ (jd jdt_Or_takeStand 25 rfl) rfl)
        · refine J_mono (w_aload_n C (jd jdt_Or_takeStand 19 rfl) rfl) ?_
          refine J_mono (jg_Or_9 C hp0 (jd jdt_Or_takeStand 20 rfl)) ?_
          refine J_mono (w_aload_n C (jd jdt_Or_takeStand 21 rfl) rfl) ?_
          refine J_bind (fun q17 hq17 => ?_)
          refine J_mono (jc_Or_57 C (jkf_2_0 hp0) (C_Re_takeWord l G F (jpf a0 0) a3 (jkf_2_0 hp0) hp3 q15.2 hq17) rfl (Nat.le_trans (Nat.le_of_ble_eq_true rfl : 8 + 1 ≤ 10) hD) (jd jdt_Or_takeStand 22 rfl)) ?_
          refine J_br (w_if_ne (y := 0) C (jd jdt_Or_takeStand 23 rfl) rfl) (fun h18 => J_pos h18 ?_) (fun h18 => J_neg h18 ?_)
          · refine J_mono (w_iconst_0 C (jd jdt_Or_takeStand 24 rfl)) ?_
            exact J_some (fun hx => hR 0 q17.2 hx _ _ (jd jdt_Or_takeStand 25 rfl) rfl)
          · refine J_mono (w_aload_n C (jd jdt_Or_takeStand 26 rfl) rfl) ?_
            refine J_mono (jg_Or_9 C hp0 (jd jdt_Or_takeStand 27 rfl)) ?_
            refine J_mono (w_iconst_1 C (jd jdt_Or_takeStand 28 rfl)) ?_
            refine J_mono (w_iload C (jd jdt_Or_takeStand 29 rfl) rfl) ?_
            refine J_bind (fun q19 hq19 => ?_)
            refine J_mono (jc_Or_61 C (jkf_2_0 hp0) (C_Re_takeNumber l G F (jpf a0 0) 1 a4 (jkf_2_0 hp0) q17.2 hq19) rfl (Nat.le_trans (Nat.le_of_ble_eq_true rfl : 3 + 1 ≤ 10) hD) (jd jdt_Or_takeStand 30 rfl)) ?_
            refine J_mono (w_istore (ls' := [some (.ref a0), some (.ref a1), some (.int a2), some (.ref a3), some (.int a4), some (.int q15.1), some (.int q19.1)]) C (jd jdt_Or_takeStand 31 rfl) (by decide) rfl rfl) ?_
            refine J_mono (w_iload C (jd jdt_Or_takeStand 32 rfl) rfl) ?_
            refine J_br (w_if_ge (y := 0) C (jd jdt_Or_takeStand 33 rfl) rfl) (fun h20 => J_pos h20 ?_) (fun h20 => J_neg h20 ?_)
            · refine J_mono (w_iconst_0 C (jd jdt_Or_takeStand 34 rfl)) ?_
              exact J_some (fun hx => hR 0 q19.2 hx _ _ (jd jdt_Or_takeStand 35 rfl) rfl)
            · refine J_mono (w_aload_n C (jd jdt_Or_takeStand 36 rfl) rfl) ?_
              refine J_mono (w_iload C (jd jdt_Or_takeStand 37 rfl) rfl) ?_
              refine J_mono (w_iload C (jd jdt_Or_takeStand 38 rfl) rfl) ?_
              refine J_bind (fun q21 hq21 => ?_)
              refine J_mono (jc_Or_183 C hp1 (C_St_add l G F a1 q15.1 q19.1 hp1 q19.2 hq21) rfl (Nat.le_trans (Nat.le_of_ble_eq_true rfl : 2 + 1 ≤ 10) hD) (jd jdt_Or_takeStand 39 rfl)) ?_
              refine J_mono (w_iconst_1 C (jd jdt_Or_takeStand 40 rfl)) ?_
              exact J_some (fun hx => hR 1 q21 hx _ _ (jd jdt_Or_takeStand 41 rfl) rfl)
end
theorem C_Or_takeStand (l : Launch) (G : JG) (F : jF G = false) (a0 : Nat) (a1 : Nat) (a2 : Int32) (a3 : Nat) (a4 : Int32) (hp0 : jkd a0 2) (hp1 : jkd a1 9) (hp3 : jks a3) (M : SM) {q : (Int32 × SM)} (hf : f_Or_takeStand a0 a1 a2 a3 a4 M = some q) : jMet l jy_Or_takeStand jb_Or_takeStand 7 (some FieldType.boolean) 10 0 0 G [.ref a0, .ref a1, .int a2, .ref a3, .int a4] jN0 (jce G M) (some (.int q.1)) jN0 (jce G q.2) :=
  j_met jo_Or_takeStand (by decide) (Nat.le_of_ble_eq_true rfl) (fun p e s m args below meth c C hr hm => K_Or_takeStand C F (Nat.le_refl _) a0 a1 a2 a3 a4 hp0 hp1 hp3 M (fun t => t = q) (fun v M' hX pc ls hd hn => by cases hX; exact w_iret C hr hn hd) _ hf rfl)
def f_Or_takeBank (a0 : Nat) (M : SM) : Option (Int32 × SM) := (f_Re_takeNumber (jpf a0 0) 1 99 M).bind fun q1 => if q1.1 < 0 then (some (0, q1.2)) else (some (1, sI q1.2 (jop (q1.2.1 a0 2)) 3 q1.1))
section
variable {p : Program} {l : Launch} {e : Env} {R : Room} {s : State} {m : MethodId} {args : Array Value} {below : List Frame} {meth : Method} {c : Code} {G : JG} {D : Nat} {Q : State → Prop}
set_option maxHeartbeats 4000000 in
set_option maxRecDepth 20000 in
theorem K_Or_takeBank (C : jCx p R s m args meth c G jb_Or_takeBank 2 D "SluicePit$OperaReader") (F : jF G = false) (hD : 4 ≤ D) (a0 : Nat) (hp0 : jkd a0 2) (M : SM) (X : (Int32 × SM) → Prop) (hR : ∀ v M', X (v, M') → ∀ (pc : Nat) (ls : List (Option Value)), decode jb_Or_takeBank pc = .ok (.ireturn, 1) → narrow FieldType.boolean (.int v) = .int v → Wk p l e R s m args below meth c G 2 Q 0 0 jN0 (jce G M') pc ls [.int v]) : J X (f_Or_takeBank a0 M) (Wk p l e R s m args below meth c G 2 Q 0 0 jN0 (jce G M) 0 [some (.ref a0), none] []) := by
  unfold f_Or_takeBank
  refine J_mono (w_aload_n C (jd jdt_Or_takeBank 0 rfl) rfl) ?_
  refine J_mono (jg_Or_9 C hp0 (jd jdt_Or_takeBank 1 rfl)) ?_
  refine J_mono (w_iconst_1 C (jd jdt_Or_takeBank 2 rfl)) ?_
  refine J_mono (w_bipush_99 C (jd jdt_Or_takeBank 3 rfl)) ?_
  refine J_bind (fun q1 hq1 => ?_)
  refine J_mono (jc_Or_61 C (jkf_2_0 hp0) (C_Re_takeNumber l G F (jpf a0 0) 1 99 (jkf_2_0 hp0) M hq1) rfl (Nat.le_trans (Nat.le_of_ble_eq_true rfl : 3 + 1 ≤ 4) hD) (jd jdt_Or_takeBank 4 rfl)) ?_
  refine J_mono (w_istore_n (ls' := [some (.ref a0), some (.int q1.1)]) C (jd jdt_Or_takeBank 5 rfl) (by decide) rfl rfl) ?_
  refine J_mono (w_iload_n C (jd jdt_Or_takeBank 6 rfl) rfl) ?_
  refine J_br (w_if_ge (y := 0) C (jd jdt_Or_takeBank 7 rfl) rfl) (fun h2 => J_pos h2 ?_) (fun h2 => J_neg h2 ?_)
  · refine J_mono (w_iconst_0 C (jd jdt_Or_takeBank 8 rfl)) ?_
    exact J_some (fun hx => hR 0 q1.2 hx _ _ (jd jdt_Or_takeBank 9 rfl) rfl)
  · refine J_mono (w_aload_n C (jd jdt_Or_takeBank 10 rfl) rfl) ?_
    refine J_mono (jg_Or_19 C hp0 (jd jdt_Or_takeBank 11 rfl)) ?_
    refine J_mono (w_iload_n C (jd jdt_Or_takeBank 12 rfl) rfl) ?_
    refine J_mono (jp_Or_187 C F (jop_kd _) (jd jdt_Or_takeBank 13 rfl)) ?_
    refine J_mono (w_iconst_1 C (jd jdt_Or_takeBank 14 rfl)) ?_
    exact J_some (fun hx => hR 1 (sI q1.2 (jop (q1.2.1 a0 2)) 3 q1.1) hx _ _ (jd jdt_Or_takeBank 15 rfl) rfl)
end
theorem C_Or_takeBank (l : Launch) (G : JG) (F : jF G = false) (a0 : Nat) (hp0 : jkd a0 2) (M : SM) {q : (Int32 × SM)} (hf : f_Or_takeBank a0 M = some q) : jMet l jy_Or_takeBank jb_Or_takeBank 2 (some FieldType.boolean) 4 0 0 G [.ref a0] jN0 (jce G M) (some (.int q.1)) jN0 (jce G q.2) :=
  j_met jo_Or_takeBank (by decide) (Nat.le_of_ble_eq_true rfl) (fun p e s m args below meth c C hr hm => K_Or_takeBank C F (Nat.le_refl _) a0 hp0 M (fun t => t = q) (fun v M' hX pc ls hd hn => by cases hX; exact w_iret C hr hn hd) _ hf rfl)
def f_Or_takeStatement (a0 : Nat) (M : SM) : Option (Int32 × SM) := (f_Re_wordAmong (jpf a0 0) 1001 M).bind fun q1 => if q1 < 0 then ((f_Re_refuse (jpf a0 0) M).bind fun q3 => (bchk q3.1).bind fun b4 => some (b4, q3.2)) else ((f_Or_isFull a0 q1 M).bind fun q5 => if q5 = 0 then ((f_Re_step (jpf a0 0) M).bind fun q7 => if q1 = 0 then ((f_Or_takeGround a0 (jpf (jop (q7.1 a0 2)) 5) 9 q7).bind fun q9 => (bchk q9.1).bind fun b10 => some (b10, q9.2)) else (if q1 = 1 then ((f_Or_takeGround a0 (jpf (jop (q7.1 a0 2)) 6) 99 q7).bind fun q12 => (bchk q12.1).bind fun b13 => some (b13, q12.2)) else (if q1 = 2 then ((f_Or_takeDesk a0 q7).bind fun q15 => (bchk q15.1).bind fun b16 => some (b16, q15.2)) else (if q1 = 3 then ((f_Or_takePit a0 q7).bind fun q18 => (bchk q18.1).bind fun b19 => some (b19, q18.2)) else (if q1 = 4 then ((f_Or_takeSluice a0 q7).bind fun q21 => (bchk q21.1).bind fun b22 => some (b22, q21.2)) else (if q1 = 5 then ((f_Or_takeStand a0 (jpf (jop (q7.1 a0 2)) 10) 1 1008 99 q7).bind fun q24 => (bchk q24.1).bind fun b25 => some (b25, q24.2)) else (if q1 = 6 then ((f_Or_takeStand a0 (jpf (jop (q7.1 a0 2)) 11) 2 1009 99 q7).bind fun q27 => (bchk q27.1).bind fun b28 => some (b28, q27.2)) else (if q1 = 7 then ((f_Or_takeStand a0 (jpf (jop (q7.1 a0 2)) 12) (-1) 1010 9 q7).bind fun q30 => (bchk q30.1).bind fun b31 => some (b31, q30.2)) else ((f_Or_takeBank a0 q7).bind fun q32 => (bchk q32.1).bind fun b33 => some (b33, q32.2)))))))))) else ((f_Re_fail (jpf a0 0) 5 (M.1 (jpf a0 0) 3) M).bind fun q34 => (bchk q34.1).bind fun b35 => some (b35, q34.2)))
section
variable {p : Program} {l : Launch} {e : Env} {R : Room} {s : State} {m : MethodId} {args : Array Value} {below : List Frame} {meth : Method} {c : Code} {G : JG} {D : Nat} {Q : State → Prop}
set_option maxHeartbeats 4000000 in
set_option maxRecDepth 20000 in
theorem K_Or_takeStatement (C : jCx p R s m args meth c G jb_Or_takeStatement 2 D "SluicePit$OperaReader") (F : jF G = false) (hD : 51 ≤ D) (a0 : Nat) (hp0 : jkd a0 2) (M : SM) (X : (Int32 × SM) → Prop) (hR : ∀ v M', X (v, M') → ∀ (pc : Nat) (ls : List (Option Value)), decode jb_Or_takeStatement pc = .ok (.ireturn, 1) → narrow FieldType.boolean (.int v) = .int v → Wk p l e R s m args below meth c G 2 Q 0 0 jN0 (jce G M') pc ls [.int v]) : J X (f_Or_takeStatement a0 M) (Wk p l e R s m args below meth c G 2 Q 0 0 jN0 (jce G M) 0 [some (.ref a0), none] []) := by
  unfold f_Or_takeStatement
  refine J_mono (w_aload_n C (jd jdt_Or_takeStatement 0 rfl) rfl) ?_
  refine J_mono (jg_Or_9 C hp0 (jd jdt_Or_takeStatement 1 rfl)) ?_
  refine J_mono (w_ldcS (i := 1) C rfl (jd jdt_Or_takeStatement 2 rfl)) ?_
  refine J_bind (fun q1 hq1 => ?_)
  refine J_mono (jc_Or_70 C (jkf_2_0 hp0) (C_Re_wordAmong l G F (jpf a0 0) 1001 (jkf_2_0 hp0) (jks_of 1) M hq1) rfl (Nat.le_trans (Nat.le_of_ble_eq_true rfl : 8 + 1 ≤ 51) hD) (jd jdt_Or_takeStatement 3 rfl)) ?_
  refine J_mono (w_istore_n (ls' := [some (.ref a0), some (.int q1)]) C (jd jdt_Or_takeStatement 4 rfl) (by decide) rfl rfl) ?_
  refine J_mono (w_iload_n C (jd jdt_Or_takeStatement 5 rfl) rfl) ?_
  refine J_br (w_if_ge (y := 0) C (jd jdt_Or_takeStatement 6 rfl) rfl) (fun h2 => J_pos h2 ?_) (fun h2 => J_neg h2 ?_)
  · refine J_mono (w_aload_n C (jd jdt_Or_takeStatement 7 rfl) rfl) ?_
    refine J_mono (jg_Or_9 C hp0 (jd jdt_Or_takeStatement 8 rfl)) ?_
    refine J_bind (fun q3 hq3 => ?_)
    refine J_mono (jc_Or_74 C (jkf_2_0 hp0) (C_Re_refuse l G F (jpf a0 0) (jkf_2_0 hp0) M hq3) rfl (Nat.le_trans (Nat.le_of_ble_eq_true rfl : 2 + 1 ≤ 51) hD) (jd jdt_Or_takeStatement 9 rfl)) ?_
    refine J_bind (fun b4 hb4 => ?_)
    obtain rfl := bchk_e hb4
    exact J_some (fun hx => hR _ q3.2 hx _ _ (jd jdt_Or_takeStatement 10 rfl) (bchk_n hb4))
  · refine J_mono (w_aload_n C (jd jdt_Or_takeStatement 11 rfl) rfl) ?_
    refine J_mono (w_iload_n C (jd jdt_Or_takeStatement 12 rfl) rfl) ?_
    refine J_bind (fun q5 hq5 => ?_)
    refine J_mono (jc_Or_77 C hp0 (C_Or_isFull l G F a0 q1 hp0 M hq5) rfl (Nat.le_trans (Nat.le_of_ble_eq_true rfl : 2 + 1 ≤ 51) hD) (jd jdt_Or_takeStatement 13 rfl)) ?_
    refine J_br (w_if_eq (y := 0) C (jd jdt_Or_takeStatement 14 rfl) rfl) (fun h6 => J_pos h6 ?_) (fun h6 => J_neg h6 ?_)
    · refine J_mono (w_aload_n C (jd jdt_Or_takeStatement 23 rfl) rfl) ?_
      refine J_mono (jg_Or_9 C hp0 (jd jdt_Or_takeStatement 24 rfl)) ?_
      refine J_bind (fun q7 hq7 => ?_)
      refine J_mono (jc_Or_81 C (jkf_2_0 hp0) (C_Re_step l G F (jpf a0 0) (jkf_2_0 hp0) M hq7) rfl (Nat.le_trans (Nat.le_of_ble_eq_true rfl : 2 + 1 ≤ 51) hD) (jd jdt_Or_takeStatement 25 rfl)) ?_
      refine J_mono (w_iload_n C (jd jdt_Or_takeStatement 26 rfl) rfl) ?_
      refine J_ite (fun h8 => ?_) (fun h8 => ?_)
      · refine J_mono (w_tsw C h8 (jd jdt_Or_takeStatement 27 rfl) (by decide) (by decide) rfl rfl) ?_
        refine J_mono (w_aload_n C (jd jdt_Or_takeStatement 28 rfl) rfl) ?_
        refine J_mono (w_aload_n C (jd jdt_Or_takeStatement 29 rfl) rfl) ?_
        refine J_mono (jg_Or_19 C hp0 (jd jdt_Or_takeStatement 30 rfl)) ?_
        refine J_mono (jg_Or_84 C (jop_kd _) (jd jdt_Or_takeStatement 31 rfl)) ?_
        refine J_mono (w_bipush_9 C (jd jdt_Or_takeStatement 32 rfl)) ?_
        refine J_bind (fun q9 hq9 => ?_)
        refine J_mono (jc_Or_88 C hp0 (C_Or_takeGround l G F a0 (jpf (jop (q7.1 a0 2)) 5) 9 hp0 (jkf_1_5 (jop_kd _)) q7 hq9) rfl (Nat.le_trans (Nat.le_of_ble_eq_true rfl : 9 + 1 ≤ 51) hD) (jd jdt_Or_takeStatement 33 rfl)) ?_
        refine J_bind (fun b10 hb10 => ?_)
        obtain rfl := bchk_e hb10
        exact J_some (fun hx => hR _ q9.2 hx _ _ (jd jdt_Or_takeStatement 34 rfl) (bchk_n hb10))
      · refine J_ite (fun h11 => ?_) (fun h11 => ?_)
        · refine J_mono (w_tsw C h11 (jd jdt_Or_takeStatement 27 rfl) (by decide) (by decide) rfl rfl) ?_
          refine J_mono (w_aload_n C (jd jdt_Or_takeStatement 35 rfl) rfl) ?_
          refine J_mono (w_aload_n C (jd jdt_Or_takeStatement 36 rfl) rfl) ?_
          refine J_mono (jg_Or_19 C hp0 (jd jdt_Or_takeStatement 37 rfl)) ?_
          refine J_mono (jg_Or_92 C (jop_kd _) (jd jdt_Or_takeStatement 38 rfl)) ?_
          refine J_mono (w_bipush_99 C (jd jdt_Or_takeStatement 39 rfl)) ?_
          refine J_bind (fun q12 hq12 => ?_)
          refine J_mono (jc_Or_88 C hp0 (C_Or_takeGround l G F a0 (jpf (jop (q7.1 a0 2)) 6) 99 hp0 (jkf_1_6 (jop_kd _)) q7 hq12) rfl (Nat.le_trans (Nat.le_of_ble_eq_true rfl : 9 + 1 ≤ 51) hD) (jd jdt_Or_takeStatement 40 rfl)) ?_
          refine J_bind (fun b13 hb13 => ?_)
          obtain rfl := bchk_e hb13
          exact J_some (fun hx => hR _ q12.2 hx _ _ (jd jdt_Or_takeStatement 41 rfl) (bchk_n hb13))
        · refine J_ite (fun h14 => ?_) (fun h14 => ?_)
          · refine J_mono (w_tsw C h14 (jd jdt_Or_takeStatement 27 rfl) (by decide) (by decide) rfl rfl) ?_
            refine J_mono (w_aload_n C (jd jdt_Or_takeStatement 42 rfl) rfl) ?_
            refine J_bind (fun q15 hq15 => ?_)
            refine J_mono (jc_Or_95 C hp0 (C_Or_takeDesk l G F a0 hp0 q7 hq15) rfl (Nat.le_trans (Nat.le_of_ble_eq_true rfl : 50 + 1 ≤ 51) hD) (jd jdt_Or_takeStatement 43 rfl)) ?_
            refine J_bind (fun b16 hb16 => ?_)
            obtain rfl := bchk_e hb16
            exact J_some (fun hx => hR _ q15.2 hx _ _ (jd jdt_Or_takeStatement 44 rfl) (bchk_n hb16))
          · refine J_ite (fun h17 => ?_) (fun h17 => ?_)
            · refine J_mono (w_tsw C h17 (jd jdt_Or_takeStatement 27 rfl) (by decide) (by decide) rfl rfl) ?_
              refine J_mono (w_aload_n C (jd jdt_Or_takeStatement 45 rfl) rfl) ?_
              refine J_bind (fun q18 hq18 => ?_)
              refine J_mono (jc_Or_98 C hp0 (C_Or_takePit l G F a0 hp0 q7 hq18) rfl (Nat.le_trans (Nat.le_of_ble_eq_true rfl : 5 + 1 ≤ 51) hD) (jd jdt_Or_takeStatement 46 rfl)) ?_
              refine J_bind (fun b19 hb19 => ?_)
              obtain rfl := bchk_e hb19
              exact J_some (fun hx => hR _ q18.2 hx _ _ (jd jdt_Or_takeStatement 47 rfl) (bchk_n hb19))
            · refine J_ite (fun h20 => ?_) (fun h20 => ?_)
              · refine J_mono (w_tsw C h20 (jd jdt_Or_takeStatement 27 rfl) (by decide) (by decide) rfl rfl) ?_
                refine J_mono (w_aload_n C (jd jdt_Or_takeStatement 48 rfl) rfl) ?_
                refine J_bind (fun q21 hq21 => ?_)
                refine J_mono (jc_Or_101 C hp0 (C_Or_takeSluice l G F a0 hp0 q7 hq21) rfl (Nat.le_trans (Nat.le_of_ble_eq_true rfl : 4 + 1 ≤ 51) hD) (jd jdt_Or_takeStatement 49 rfl)) ?_
                refine J_bind (fun b22 hb22 => ?_)
                obtain rfl := bchk_e hb22
                exact J_some (fun hx => hR _ q21.2 hx _ _ (jd jdt_Or_takeStatement 50 rfl) (bchk_n hb22))
              · refine J_ite (fun h23 => ?_) (fun h23 => ?_)
                · refine J_mono (w_tsw C h23 (jd jdt_Or_takeStatement 27 rfl) (by decide) (by decide) rfl rfl) ?_
                  refine J_mono (w_aload_n C (jd jdt_Or_takeStatement 51 rfl) rfl) ?_
                  refine J_mono (w_aload_n C (jd jdt_Or_takeStatement 52 rfl) rfl) ?_
                  refine J_mono (jg_Or_19 C hp0 (jd jdt_Or_takeStatement 53 rfl)) ?_
                  refine J_mono (jg_Or_104 C (jop_kd _) (jd jdt_Or_takeStatement 54 rfl)) ?_
                  refine J_mono (w_iconst_1 C (jd jdt_Or_takeStatement 55 rfl)) ?_
                  refine J_mono (w_ldcS (i := 8) C rfl (jd jdt_Or_takeStatement 56 rfl)) ?_
                  refine J_mono (w_bipush_99 C (jd jdt_Or_takeStatement 57 rfl)) ?_
                  refine J_bind (fun q24 hq24 => ?_)
                  refine J_mono (jc_Or_110 C hp0 (C_Or_takeStand l G F a0 (jpf (jop (q7.1 a0 2)) 10) 1 1008 99 hp0 (jkf_1_10 (jop_kd _)) (jks_of 8) q7 hq24) rfl (Nat.le_trans (Nat.le_of_ble_eq_true rfl : 10 + 1 ≤ 51) hD) (jd jdt_Or_takeStatement 58 rfl)) ?_
                  refine J_bind (fun b25 hb25 => ?_)
                  obtain rfl := bchk_e hb25
                  exact J_some (fun hx => hR _ q24.2 hx _ _ (jd jdt_Or_takeStatement 59 rfl) (bchk_n hb25))
                · refine J_ite (fun h26 => ?_) (fun h26 => ?_)
                  · refine J_mono (w_tsw C h26 (jd jdt_Or_takeStatement 27 rfl) (by decide) (by decide) rfl rfl) ?_
                    refine J_mono (w_aload_n C (jd jdt_Or_takeStatement 60 rfl) rfl) ?_
                    refine J_mono (w_aload_n C (jd jdt_Or_takeStatement 61 rfl) rfl) ?_
                    refine J_mono (jg_Or_19 C hp0 (jd jdt_Or_takeStatement 62 rfl)) ?_
                    refine J_mono (jg_Or_114 C (jop_kd _) (jd jdt_Or_takeStatement 63 rfl)) ?_
                    refine J_mono (w_iconst_2 C (jd jdt_Or_takeStatement 64 rfl)) ?_
                    refine J_mono (w_ldcS (i := 9) C rfl (jd jdt_Or_takeStatement 65 rfl)) ?_
                    refine J_mono (w_bipush_99 C (jd jdt_Or_takeStatement 66 rfl)) ?_
                    refine J_bind (fun q27 hq27 => ?_)
                    refine J_mono (jc_Or_110 C hp0 (C_Or_takeStand l G F a0 (jpf (jop (q7.1 a0 2)) 11) 2 1009 99 hp0 (jkf_1_11 (jop_kd _)) (jks_of 9) q7 hq27) rfl (Nat.le_trans (Nat.le_of_ble_eq_true rfl : 10 + 1 ≤ 51) hD) (jd jdt_Or_takeStatement 67 rfl)) ?_
                    refine J_bind (fun b28 hb28 => ?_)
                    obtain rfl := bchk_e hb28
                    exact J_some (fun hx => hR _ q27.2 hx _ _ (jd jdt_Or_takeStatement 68 rfl) (bchk_n hb28))
                  · refine J_ite (fun h29 => ?_) (fun h29 => ?_)
                    · refine J_mono (w_tsw C h29 (jd jdt_Or_takeStatement 27 rfl) (by decide) (by decide) rfl rfl) ?_
                      refine J_mono (w_aload_n C (jd jdt_Or_takeStatement 69 rfl) rfl) ?_
                      refine J_mono (w_aload_n C (jd jdt_Or_takeStatement 70 rfl) rfl) ?_
                      refine J_mono (jg_Or_19 C hp0 (jd jdt_Or_takeStatement 71 rfl)) ?_
                      refine J_mono (jg_Or_119 C (jop_kd _) (jd jdt_Or_takeStatement 72 rfl)) ?_
                      refine J_mono (w_iconst_m1 C (jd jdt_Or_takeStatement 73 rfl)) ?_
                      refine J_mono (w_ldcS (i := 10) C rfl (jd jdt_Or_takeStatement 74 rfl)) ?_
                      refine J_mono (w_bipush_9 C (jd jdt_Or_takeStatement 75 rfl)) ?_
                      refine J_bind (fun q30 hq30 => ?_)
                      refine J_mono (jc_Or_110 C hp0 (C_Or_takeStand l G F a0 (jpf (jop (q7.1 a0 2)) 12) (-1) 1010 9 hp0 (jkf_1_12 (jop_kd _)) (jks_of 10) q7 hq30) rfl (Nat.le_trans (Nat.le_of_ble_eq_true rfl : 10 + 1 ≤ 51) hD) (jd jdt_Or_takeStatement 76 rfl)) ?_
                      refine J_bind (fun b31 hb31 => ?_)
                      obtain rfl := bchk_e hb31
                      exact J_some (fun hx => hR _ q30.2 hx _ _ (jd jdt_Or_takeStatement 77 rfl) (bchk_n hb31))
                    · refine J_mono (w_tswd C (jd jdt_Or_takeStatement 27 rfl) (fun k9 kA kB => by have kC : k9 = 0 ∨ k9 = 1 ∨ k9 = 2 ∨ k9 = 3 ∨ k9 = 4 ∨ k9 = 5 ∨ k9 = 6 ∨ k9 = 7 := (by omega); rcases kC with rfl|rfl|rfl|rfl|rfl|rfl|rfl|rfl <;> first | exact h8 | exact h11 | exact h14 | exact h17 | exact h20 | exact h23 | exact h26 | exact h29) (by decide) (by decide) rfl) ?_
                      refine J_mono (w_aload_n C (jd jdt_Or_takeStatement 78 rfl) rfl) ?_
                      refine J_bind (fun q32 hq32 => ?_)
                      refine J_mono (jc_Or_124 C hp0 (C_Or_takeBank l G F a0 hp0 q7 hq32) rfl (Nat.le_trans (Nat.le_of_ble_eq_true rfl : 4 + 1 ≤ 51) hD) (jd jdt_Or_takeStatement 79 rfl)) ?_
                      refine J_bind (fun b33 hb33 => ?_)
                      obtain rfl := bchk_e hb33
                      exact J_some (fun hx => hR _ q32.2 hx _ _ (jd jdt_Or_takeStatement 80 rfl) (bchk_n hb33))
    · refine J_mono (w_aload_n C (jd jdt_Or_takeStatement 15 rfl) rfl) ?_
      refine J_mono (jg_Or_9 C hp0 (jd jdt_Or_takeStatement 16 rfl)) ?_
      refine J_mono (w_iconst_5 C (jd jdt_Or_takeStatement 17 rfl)) ?_
      refine J_mono (w_aload_n C (jd jdt_Or_takeStatement 18 rfl) rfl) ?_
      refine J_mono (jg_Or_9 C hp0 (jd jdt_Or_takeStatement 19 rfl)) ?_
      refine J_mono (jg_Or_48 C (jkf_2_0 hp0) (jd jdt_Or_takeStatement 20 rfl)) ?_
      refine J_bind (fun q34 hq34 => ?_)
      refine J_mono (jc_Or_51 C (jkf_2_0 hp0) (C_Re_fail l G F (jpf a0 0) 5 (M.1 (jpf a0 0) 3) (jkf_2_0 hp0) M hq34) rfl (Nat.le_trans (Nat.le_of_ble_eq_true rfl : 1 + 1 ≤ 51) hD) (jd jdt_Or_takeStatement 21 rfl)) ?_
      refine J_bind (fun b35 hb35 => ?_)
      obtain rfl := bchk_e hb35
      exact J_some (fun hx => hR _ q34.2 hx _ _ (jd jdt_Or_takeStatement 22 rfl) (bchk_n hb35))
end
theorem C_Or_takeStatement (l : Launch) (G : JG) (F : jF G = false) (a0 : Nat) (hp0 : jkd a0 2) (M : SM) {q : (Int32 × SM)} (hf : f_Or_takeStatement a0 M = some q) : jMet l jy_Or_takeStatement jb_Or_takeStatement 2 (some FieldType.boolean) 51 0 0 G [.ref a0] jN0 (jce G M) (some (.int q.1)) jN0 (jce G q.2) :=
  j_met jo_Or_takeStatement (by decide) (Nat.le_of_ble_eq_true rfl) (fun p e s m args below meth c C hr hm => K_Or_takeStatement C F (Nat.le_refl _) a0 hp0 M (fun t => t = q) (fun v M' hX pc ls hd hn => by cases hX; exact w_iret C hr hn hd) _ hf rfl)
def lp_Or_read_14 (y0 : Nat) : Nat → Int32 → SM → Option ((SM) ⊕ (Int32 × SM))
  | 0, _, _ => none
  | n + 1, x2, M => if x2 < 70 then (if 0 < x2 then ((f_Re_isEnd (jpf y0 0) M).bind fun q4 => if q4 = 0 then ((if x2 = 0 then ((f_Or_takeRiver y0 M).bind fun q8 => some (q8.1, q8.2)) else ((f_Or_takeStatement y0 M).bind fun q9 => some (q9.1, q9.2)) : Option (Int32 × SM)).bind fun q6 => if q6.1 = 0 then (some (.inr (0, q6.2))) else ((f_Re_takeSign (jpf y0 0) 59 q6.2).bind fun q11 => if q11.1 = 0 then (some (.inr (0, q11.2))) else (lp_Or_read_14 y0 n (x2 + 1) (sI q11.2 (jop (q11.2.1 y0 2)) 0 ((q11.2.1 (jop (q11.2.1 y0 2)) 0) + 1))))) else (some (.inr (1, M)))) else ((if x2 = 0 then ((f_Or_takeRiver y0 M).bind fun q15 => some (q15.1, q15.2)) else ((f_Or_takeStatement y0 M).bind fun q16 => some (q16.1, q16.2)) : Option (Int32 × SM)).bind fun q13 => if q13.1 = 0 then (some (.inr (0, q13.2))) else ((f_Re_takeSign (jpf y0 0) 59 q13.2).bind fun q18 => if q18.1 = 0 then (some (.inr (0, q18.2))) else (lp_Or_read_14 y0 n (x2 + 1) (sI q18.2 (jop (q18.2.1 y0 2)) 0 ((q18.2.1 (jop (q18.2.1 y0 2)) 0) + 1)))))) else (some (.inl M))
def f_Or_read (a0 : Nat) (a1 : Nat) (M : SM) : Option (Int32 × SM) := (f_Op_clear (jop ((sI M a0 2 (jopn a1)).1 a0 2)) (sI M a0 2 (jopn a1))).bind fun q1 => jsb (lp_Or_read_14 a0 jfuel 0 q1) id fun q20 => (f_Re_isEnd (jpf a0 0) q20).bind fun q21 => if q21 = 0 then ((f_Re_fail (jpf a0 0) 5 (q20.1 (jpf a0 0) 3) q20).bind fun q23 => if q23.1 = 0 then (some (0, q23.2)) else (some (1, q23.2))) else (some (1, q20))
section
variable {p : Program} {l : Launch} {e : Env} {R : Room} {s : State} {m : MethodId} {args : Array Value} {below : List Frame} {meth : Method} {c : Code} {G : JG} {D : Nat} {Q : State → Prop}
set_option maxHeartbeats 4000000 in
set_option maxRecDepth 20000 in
theorem K_Or_read (C : jCx p R s m args meth c G jb_Or_read 4 D "SluicePit$OperaReader") (F : jF G = false) (hD : 52 ≤ D) (a0 : Nat) (a1 : Nat) (hp0 : jkd a0 2) (hp1 : jkd a1 1) (M : SM) (X : (Int32 × SM) → Prop) (hR : ∀ v M', X (v, M') → ∀ (pc : Nat) (ls : List (Option Value)), decode jb_Or_read pc = .ok (.ireturn, 1) → narrow FieldType.boolean (.int v) = .int v → Wk p l e R s m args below meth c G 4 Q 0 0 jN0 (jce G M') pc ls [.int v]) : J X (f_Or_read a0 a1 M) (Wk p l e R s m args below meth c G 4 Q 0 0 jN0 (jce G M) 0 [some (.ref a0), some (.ref a1), none, none] []) := by
  unfold f_Or_read
  refine J_mono (w_aload_n C (jd jdt_Or_read 0 rfl) rfl) ?_
  refine J_mono (w_aload_n C (jd jdt_Or_read 1 rfl) rfl) ?_
  refine J_mono (jp_Or_19 C F hp0 hp1 (jd jdt_Or_read 2 rfl)) ?_
  refine J_mono (w_aload_n C (jd jdt_Or_read 3 rfl) rfl) ?_
  refine J_mono (jg_Or_19 C hp0 (jd jdt_Or_read 4 rfl)) ?_
  refine J_bind (fun q1 hq1 => ?_)
  refine J_mono (jc_Or_23 C (jop_kd _) (C_Op_clear l G F (jop ((sI M a0 2 (jopn a1)).1 a0 2)) (jop_kd _) (sI M a0 2 (jopn a1)) hq1) rfl (Nat.le_trans (Nat.le_of_ble_eq_true rfl : 2 + 1 ≤ 52) hD) (jd jdt_Or_read 5 rfl)) ?_
  refine J_mono (w_iconst_0 C (jd jdt_Or_read 6 rfl)) ?_
  refine J_mono (w_istore_n (ls' := [some (.ref a0), some (.ref a1), some (.int 0), none]) C (jd jdt_Or_read 7 rfl) (by decide) rfl rfl) ?_
  have L14 : ∀ (y0 : Nat) (hy0 : jkd y0 2) (n : Nat) (x2 : Int32) (M : SM), J (Sum.elim (fun (q20 : SM) => Wk p l e R s m args below meth c G 4 Q 0 0 jN0 (jce G q20) 89 [some (.ref y0), none, none, none] []) X) (lp_Or_read_14 y0 n x2 M) (Wk p l e R s m args below meth c G 4 Q 0 0 jN0 (jce G M) 14 [some (.ref y0), none, some (.int x2), none] []) := by
    intro y0 hy0 n
    induction n with
    | zero => intro x2 M; exact J_none
    | succ n ih =>
      intro x2 M
      unfold lp_Or_read_14
      refine J_mono (w_iload_n C (jd jdt_Or_read 8 rfl) rfl) ?_
      refine J_mono (w_bipush_70 C (jd jdt_Or_read 9 rfl)) ?_
      refine J_br (w_icmp_ge C (jd jdt_Or_read 10 rfl) rfl) (fun h2 => J_pos h2 ?_) (fun h2 => J_neg h2 ?_)
      · refine J_mono (w_iload_n C (jd jdt_Or_read 11 rfl) rfl) ?_
        refine J_br (w_if_le (y := 0) C (jd jdt_Or_read 12 rfl) rfl) (fun h3 => J_pos h3 ?_) (fun h3 => J_neg h3 ?_)
        · refine J_mono (w_aload_n C (jd jdt_Or_read 13 rfl) rfl) ?_
          refine J_mono (jg_Or_9 C hy0 (jd jdt_Or_read 14 rfl)) ?_
          refine J_bind (fun q4 hq4 => ?_)
          refine J_mono (jc_Or_28 C (jkf_2_0 hy0) (C_Re_isEnd l G F (jpf y0 0) (jkf_2_0 hy0) M hq4) rfl (Nat.le_trans (Nat.le_of_ble_eq_true rfl : 1 + 1 ≤ 52) hD) (jd jdt_Or_read 15 rfl)) ?_
          refine J_br (w_if_eq (y := 0) C (jd jdt_Or_read 16 rfl) rfl) (fun h5 => J_pos h5 ?_) (fun h5 => J_neg h5 ?_)
          · refine J_mono (w_iload_n C (jd jdt_Or_read 19 rfl) rfl) ?_
            refine J_seq (fun (q6 : Int32 × SM) => Wk p l e R s m args below meth c G 4 Q 0 0 jN0 (jce G q6.2) 51 [some (.ref y0), none, some (.int x2), none] [.int q6.1]) ?_ (fun q6 hq6 => ?_)
            · refine J_br (w_if_ne (y := 0) C (jd jdt_Or_read 20 rfl) rfl) (fun h7 => J_pos h7 ?_) (fun h7 => J_neg h7 ?_)
              · refine J_mono (w_aload_n C (jd jdt_Or_read 21 rfl) rfl) ?_
                refine J_bind (fun q8 hq8 => ?_)
                refine J_mono (jc_Or_34 C hy0 (C_Or_takeRiver l G F y0 hy0 M hq8) rfl (Nat.le_trans (Nat.le_of_ble_eq_true rfl : 9 + 1 ≤ 52) hD) (jd jdt_Or_read 22 rfl)) ?_
                refine J_mono (w_goto C (jd jdt_Or_read 23 rfl) rfl) ?_
                exact J_some (fun hx => Wk_sb hx ⟨rfl, rfl, trivial⟩)
              · refine J_mono (w_aload_n C (jd jdt_Or_read 24 rfl) rfl) ?_
                refine J_bind (fun q9 hq9 => ?_)
                refine J_mono (jc_Or_37 C hy0 (C_Or_takeStatement l G F y0 hy0 M hq9) rfl (Nat.le_trans (Nat.le_of_ble_eq_true rfl : 51 + 1 ≤ 52) hD) (jd jdt_Or_read 25 rfl)) ?_
                exact J_some (fun hx => Wk_sb hx ⟨rfl, rfl, trivial⟩)
            · refine J_mono (w_istore_n (ls' := [some (.ref y0), none, some (.int x2), some (.int q6.1)]) C (jd jdt_Or_read 26 rfl) (by decide) rfl rfl) ?_
              refine J_mono (w_iload_n C (jd jdt_Or_read 27 rfl) rfl) ?_
              refine J_br (w_if_eq (y := 0) C (jd jdt_Or_read 28 rfl) rfl) (fun h10 => J_pos h10 ?_) (fun h10 => J_neg h10 ?_)
              · refine J_mono (w_iconst_0 C (jd jdt_Or_read 34 rfl)) ?_
                exact J_some (fun hx => hR 0 q6.2 hx _ _ (jd jdt_Or_read 35 rfl) rfl)
              · refine J_mono (w_aload_n C (jd jdt_Or_read 29 rfl) rfl) ?_
                refine J_mono (jg_Or_9 C hy0 (jd jdt_Or_read 30 rfl)) ?_
                refine J_mono (w_bipush_59 C (jd jdt_Or_read 31 rfl)) ?_
                refine J_bind (fun q11 hq11 => ?_)
                refine J_mono (jc_Or_40 C (jkf_2_0 hy0) (C_Re_takeSign l G F (jpf y0 0) 59 (jkf_2_0 hy0) q6.2 hq11) rfl (Nat.le_trans (Nat.le_of_ble_eq_true rfl : 3 + 1 ≤ 52) hD) (jd jdt_Or_read 32 rfl)) ?_
                refine J_br (w_if_ne (y := 0) C (jd jdt_Or_read 33 rfl) rfl) (fun h12 => J_pos h12 ?_) (fun h12 => J_neg h12 ?_)
                · refine J_mono (w_iconst_0 C (jd jdt_Or_read 34 rfl)) ?_
                  exact J_some (fun hx => hR 0 q11.2 hx _ _ (jd jdt_Or_read 35 rfl) rfl)
                · refine J_mono (w_aload_n C (jd jdt_Or_read 36 rfl) rfl) ?_
                  refine J_mono (jg_Or_19 C hy0 (jd jdt_Or_read 37 rfl)) ?_
                  refine J_mono (w_dup_r C (jd jdt_Or_read 38 rfl)) ?_
                  refine J_mono (jg_Or_44 C (jop_kd _) (jd jdt_Or_read 39 rfl)) ?_
                  refine J_mono (w_iconst_1 C (jd jdt_Or_read 40 rfl)) ?_
                  refine J_mono (w_iadd C (jd jdt_Or_read 41 rfl)) ?_
                  refine J_mono (jp_Or_44 C F (jop_kd _) (jd jdt_Or_read 42 rfl)) ?_
                  refine J_mono (w_iinc (v := x2 + 1) (ls' := [some (.ref y0), none, some (.int (x2 + 1)), some (.int q6.1)]) C (jd jdt_Or_read 43 rfl) rfl rfl (by decide) rfl rfl) ?_
                  refine J_mono (w_goto C (jd jdt_Or_read 44 rfl) rfl) ?_
                  exact J_sub (ih (x2 + 1) (sI q11.2 (jop (q11.2.1 y0 2)) 0 ((q11.2.1 (jop (q11.2.1 y0 2)) 0) + 1))) ⟨rfl, rfl, trivial⟩
          · refine J_mono (w_iconst_1 C (jd jdt_Or_read 17 rfl)) ?_
            exact J_some (fun hx => hR 1 M hx _ _ (jd jdt_Or_read 18 rfl) rfl)
        · refine J_mono (w_iload_n C (jd jdt_Or_read 19 rfl) rfl) ?_
          refine J_seq (fun (q13 : Int32 × SM) => Wk p l e R s m args below meth c G 4 Q 0 0 jN0 (jce G q13.2) 51 [some (.ref y0), none, some (.int x2), none] [.int q13.1]) ?_ (fun q13 hq13 => ?_)
          · refine J_br (w_if_ne (y := 0) C (jd jdt_Or_read 20 rfl) rfl) (fun h14 => J_pos h14 ?_) (fun h14 => J_neg h14 ?_)
            · refine J_mono (w_aload_n C (jd jdt_Or_read 21 rfl) rfl) ?_
              refine J_bind (fun q15 hq15 => ?_)
              refine J_mono (jc_Or_34 C hy0 (C_Or_takeRiver l G F y0 hy0 M hq15) rfl (Nat.le_trans (Nat.le_of_ble_eq_true rfl : 9 + 1 ≤ 52) hD) (jd jdt_Or_read 22 rfl)) ?_
              refine J_mono (w_goto C (jd jdt_Or_read 23 rfl) rfl) ?_
              exact J_some (fun hx => Wk_sb hx ⟨rfl, rfl, trivial⟩)
            · refine J_mono (w_aload_n C (jd jdt_Or_read 24 rfl) rfl) ?_
              refine J_bind (fun q16 hq16 => ?_)
              refine J_mono (jc_Or_37 C hy0 (C_Or_takeStatement l G F y0 hy0 M hq16) rfl (Nat.le_trans (Nat.le_of_ble_eq_true rfl : 51 + 1 ≤ 52) hD) (jd jdt_Or_read 25 rfl)) ?_
              exact J_some (fun hx => Wk_sb hx ⟨rfl, rfl, trivial⟩)
          · refine J_mono (w_istore_n (ls' := [some (.ref y0), none, some (.int x2), some (.int q13.1)]) C (jd jdt_Or_read 26 rfl) (by decide) rfl rfl) ?_
            refine J_mono (w_iload_n C (jd jdt_Or_read 27 rfl) rfl) ?_
            refine J_br (w_if_eq (y := 0) C (jd jdt_Or_read 28 rfl) rfl) (fun h17 => J_pos h17 ?_) (fun h17 => J_neg h17 ?_)
            · refine J_mono (w_iconst_0 C (jd jdt_Or_read 34 rfl)) ?_
              exact J_some (fun hx => hR 0 q13.2 hx _ _ (jd jdt_Or_read 35 rfl) rfl)
            · refine J_mono (w_aload_n C (jd jdt_Or_read 29 rfl) rfl) ?_
              refine J_mono (jg_Or_9 C hy0 (jd jdt_Or_read 30 rfl)) ?_
              refine J_mono (w_bipush_59 C (jd jdt_Or_read 31 rfl)) ?_
              refine J_bind (fun q18 hq18 => ?_)
              refine J_mono (jc_Or_40 C (jkf_2_0 hy0) (C_Re_takeSign l G F (jpf y0 0) 59 (jkf_2_0 hy0) q13.2 hq18) rfl (Nat.le_trans (Nat.le_of_ble_eq_true rfl : 3 + 1 ≤ 52) hD) (jd jdt_Or_read 32 rfl)) ?_
              refine J_br (w_if_ne (y := 0) C (jd jdt_Or_read 33 rfl) rfl) (fun h19 => J_pos h19 ?_) (fun h19 => J_neg h19 ?_)
              · refine J_mono (w_iconst_0 C (jd jdt_Or_read 34 rfl)) ?_
                exact J_some (fun hx => hR 0 q18.2 hx _ _ (jd jdt_Or_read 35 rfl) rfl)
              · refine J_mono (w_aload_n C (jd jdt_Or_read 36 rfl) rfl) ?_
                refine J_mono (jg_Or_19 C hy0 (jd jdt_Or_read 37 rfl)) ?_
                refine J_mono (w_dup_r C (jd jdt_Or_read 38 rfl)) ?_
                refine J_mono (jg_Or_44 C (jop_kd _) (jd jdt_Or_read 39 rfl)) ?_
                refine J_mono (w_iconst_1 C (jd jdt_Or_read 40 rfl)) ?_
                refine J_mono (w_iadd C (jd jdt_Or_read 41 rfl)) ?_
                refine J_mono (jp_Or_44 C F (jop_kd _) (jd jdt_Or_read 42 rfl)) ?_
                refine J_mono (w_iinc (v := x2 + 1) (ls' := [some (.ref y0), none, some (.int (x2 + 1)), some (.int q13.1)]) C (jd jdt_Or_read 43 rfl) rfl rfl (by decide) rfl rfl) ?_
                refine J_mono (w_goto C (jd jdt_Or_read 44 rfl) rfl) ?_
                exact J_sub (ih (x2 + 1) (sI q18.2 (jop (q18.2.1 y0 2)) 0 ((q18.2.1 (jop (q18.2.1 y0 2)) 0) + 1))) ⟨rfl, rfl, trivial⟩
      · exact J_some (fun hx => Wk_sb hx ⟨rfl, trivial⟩)
  refine J_sb (fun (q20 : SM) => Wk p l e R s m args below meth c G 4 Q 0 0 jN0 (jce G q20) 89 [some (.ref a0), none, none, none] []) (J_sub (L14 a0 hp0 jfuel 0 q1) ⟨rfl, rfl, trivial⟩) (fun q20 => ?_)
  refine J_mono (w_aload_n C (jd jdt_Or_read 45 rfl) rfl) ?_
  refine J_mono (jg_Or_9 C hp0 (jd jdt_Or_read 46 rfl)) ?_
  refine J_bind (fun q21 hq21 => ?_)
  refine J_mono (jc_Or_28 C (jkf_2_0 hp0) (C_Re_isEnd l G F (jpf a0 0) (jkf_2_0 hp0) q20 hq21) rfl (Nat.le_trans (Nat.le_of_ble_eq_true rfl : 1 + 1 ≤ 52) hD) (jd jdt_Or_read 47 rfl)) ?_
  refine J_br (w_if_ne (y := 0) C (jd jdt_Or_read 48 rfl) rfl) (fun h22 => J_pos h22 ?_) (fun h22 => J_neg h22 ?_)
  · refine J_mono (w_aload_n C (jd jdt_Or_read 49 rfl) rfl) ?_
    refine J_mono (jg_Or_9 C hp0 (jd jdt_Or_read 50 rfl)) ?_
    refine J_mono (w_iconst_5 C (jd jdt_Or_read 51 rfl)) ?_
    refine J_mono (w_aload_n C (jd jdt_Or_read 52 rfl) rfl) ?_
    refine J_mono (jg_Or_9 C hp0 (jd jdt_Or_read 53 rfl)) ?_
    refine J_mono (jg_Or_48 C (jkf_2_0 hp0) (jd jdt_Or_read 54 rfl)) ?_
    refine J_bind (fun q23 hq23 => ?_)
    refine J_mono (jc_Or_51 C (jkf_2_0 hp0) (C_Re_fail l G F (jpf a0 0) 5 (q20.1 (jpf a0 0) 3) (jkf_2_0 hp0) q20 hq23) rfl (Nat.le_trans (Nat.le_of_ble_eq_true rfl : 1 + 1 ≤ 52) hD) (jd jdt_Or_read 55 rfl)) ?_
    refine J_br (w_if_eq (y := 0) C (jd jdt_Or_read 56 rfl) rfl) (fun h24 => J_pos h24 ?_) (fun h24 => J_neg h24 ?_)
    · refine J_mono (w_iconst_0 C (jd jdt_Or_read 59 rfl)) ?_
      exact J_some (fun hx => hR 0 q23.2 hx _ _ (jd jdt_Or_read 60 rfl) rfl)
    · refine J_mono (w_iconst_1 C (jd jdt_Or_read 57 rfl)) ?_
      refine J_mono (w_goto C (jd jdt_Or_read 58 rfl) rfl) ?_
      exact J_some (fun hx => hR 1 q23.2 hx _ _ (jd jdt_Or_read 60 rfl) rfl)
  · refine J_mono (w_iconst_1 C (jd jdt_Or_read 57 rfl)) ?_
    refine J_mono (w_goto C (jd jdt_Or_read 58 rfl) rfl) ?_
    exact J_some (fun hx => hR 1 q20 hx _ _ (jd jdt_Or_read 60 rfl) rfl)
end
theorem C_Or_read (l : Launch) (G : JG) (F : jF G = false) (a0 : Nat) (a1 : Nat) (hp0 : jkd a0 2) (hp1 : jkd a1 1) (M : SM) {q : (Int32 × SM)} (hf : f_Or_read a0 a1 M = some q) : jMet l jy_Or_read jb_Or_read 4 (some FieldType.boolean) 52 0 0 G [.ref a0, .ref a1] jN0 (jce G M) (some (.int q.1)) jN0 (jce G q.2) :=
  j_met jo_Or_read (by decide) (Nat.le_of_ble_eq_true rfl) (fun p e s m args below meth c C hr hm => K_Or_read C F (Nat.le_refl _) a0 a1 hp0 hp1 M (fun t => t = q) (fun v M' hX pc ls hd hn => by cases hX; exact w_iret C hr hn hd) _ hf rfl)
def f_St_cellOfOne (a0 : Nat) (a1 : Int32) (M : SM) : Option Int32 := (f_Sp_at (jpf a0 0) a1 M).bind fun q1 => some q1
section
variable {p : Program} {l : Launch} {e : Env} {R : Room} {s : State} {m : MethodId} {args : Array Value} {below : List Frame} {meth : Method} {c : Code} {G : JG} {D : Nat} {Q : State → Prop}
set_option maxHeartbeats 4000000 in
set_option maxRecDepth 20000 in
theorem K_St_cellOfOne (C : jCx p R s m args meth c G jb_St_cellOfOne 2 D "SluicePit$Stand") (F : jF G = false) (hD : 2 ≤ D) (a0 : Nat) (a1 : Int32) (hp0 : jkd a0 9) (M : SM) (X : Int32 → Prop) (hR : ∀ v, X v → ∀ (pc : Nat) (ls : List (Option Value)), decode jb_St_cellOfOne pc = .ok (.ireturn, 1) → narrow FieldType.int (.int v) = .int v → Wk p l e R s m args below meth c G 2 Q 0 0 jN0 (jce G M) pc ls [.int v]) : J X (f_St_cellOfOne a0 a1 M) (Wk p l e R s m args below meth c G 2 Q 0 0 jN0 (jce G M) 0 [some (.ref a0), some (.int a1)] []) := by
  unfold f_St_cellOfOne
  refine J_mono (w_aload_n C (jd jdt_St_cellOfOne 0 rfl) rfl) ?_
  refine J_mono (jg_St_9 C hp0 (jd jdt_St_cellOfOne 1 rfl)) ?_
  refine J_mono (w_iload_n C (jd jdt_St_cellOfOne 2 rfl) rfl) ?_
  refine J_bind (fun q1 hq1 => ?_)
  refine J_mono (jc_St_22 C (C_Sp_at l G F (jpf a0 0) a1 (jkf_9_0 hp0) M hq1) rfl (Nat.le_trans (Nat.le_of_ble_eq_true rfl : 1 + 1 ≤ 2) hD) (jd jdt_St_cellOfOne 3 rfl)) ?_
  exact J_some (fun hx => hR q1 hx _ _ (jd jdt_St_cellOfOne 4 rfl) rfl)
end
theorem C_St_cellOfOne (l : Launch) (G : JG) (F : jF G = false) (a0 : Nat) (a1 : Int32) (hp0 : jkd a0 9) (M : SM) {q : Int32} (hf : f_St_cellOfOne a0 a1 M = some q) : jMet l jy_St_cellOfOne jb_St_cellOfOne 2 (some FieldType.int) 2 0 0 G [.ref a0, .int a1] jN0 (jce G M) (some (.int q)) jN0 (jce G M) :=
  j_met jo_St_cellOfOne (by decide) (Nat.le_of_ble_eq_true rfl) (fun p e s m args below meth c C hr hm => K_St_cellOfOne C F (Nat.le_refl _) a0 a1 hp0 M (fun t => t = q) (fun v hX pc ls hd hn => by cases hX; exact w_iret C hr hn hd) _ hf rfl)
def lp_Po_beginTold_6 (y0 : Nat) (y1 : Nat) : Nat → Int32 → SM → Option (SM)
  | 0, _, _ => none
  | n + 1, x2, M => if x2 < (M.1 y1 1) then ((f_Sp_at (jpf y1 6) x2 M).bind fun q3 => (f_Sp_put (jpf y0 0) x2 q3 M).bind fun q4 => lp_Po_beginTold_6 y0 y1 n (x2 + 1) q4) else (some M)
def lp_Po_beginTold_38 (y0 : Nat) (y1 : Nat) : Nat → Int32 → SM → Option (SM)
  | 0, _, _ => none
  | n + 1, x2, M => if x2 < (M.1 (jpf y1 11) 2) then ((f_St_cellOfOne (jpf y1 11) x2 M).bind fun q7 => (f_Sp_put (jpf y0 1) x2 q7 M).bind fun q8 => lp_Po_beginTold_38 y0 y1 n (x2 + 1) q8) else (some M)
def f_Po_beginTold (a0 : Nat) (a1 : Nat) (M : SM) : Option SM := (f_Po_suppose a0 M).bind fun q1 => (lp_Po_beginTold_6 a0 a1 jfuel 0 q1).bind fun q5 => (lp_Po_beginTold_38 a0 a1 jfuel 0 q5).bind fun q9 => some (sI (sI (sI (sI (sI q9 a0 2 0) a0 3 0) a0 4 0) a0 5 0) a0 6 0)
section
variable {p : Program} {l : Launch} {e : Env} {R : Room} {s : State} {m : MethodId} {args : Array Value} {below : List Frame} {meth : Method} {c : Code} {G : JG} {D : Nat} {Q : State → Prop}
set_option maxHeartbeats 4000000 in
set_option maxRecDepth 20000 in
theorem K_Po_beginTold (C : jCx p R s m args meth c G jb_Po_beginTold 3 D "SluicePit$Pool") (F : jF G = false) (hD : 3 ≤ D) (a0 : Nat) (a1 : Nat) (hp0 : jkd a0 5) (hp1 : jkd a1 1) (M : SM) (X : SM → Prop) (hR : ∀ M', X M' → ∀ (pc : Nat) (ls : List (Option Value)), decode jb_Po_beginTold pc = .ok (.return_, 1) → Wk p l e R s m args below meth c G 3 Q 0 0 jN0 (jce G M') pc ls []) : J X (f_Po_beginTold a0 a1 M) (Wk p l e R s m args below meth c G 3 Q 0 0 jN0 (jce G M) 0 [some (.ref a0), some (.ref a1), none] []) := by
  unfold f_Po_beginTold
  refine J_mono (w_aload_n C (jd jdt_Po_beginTold 0 rfl) rfl) ?_
  refine J_bind (fun q1 hq1 => ?_)
  refine J_mono (jc_Po_18 C hp0 (C_Po_suppose l G F a0 hp0 M hq1) rfl (Nat.le_trans (Nat.le_of_ble_eq_true rfl : 1 + 1 ≤ 3) hD) (jd jdt_Po_beginTold 1 rfl)) ?_
  refine J_mono (w_iconst_0 C (jd jdt_Po_beginTold 2 rfl)) ?_
  refine J_mono (w_istore_n (ls' := [some (.ref a0), some (.ref a1), some (.int 0)]) C (jd jdt_Po_beginTold 3 rfl) (by decide) rfl rfl) ?_
  have L6 : ∀ (y0 : Nat) (y1 : Nat) (hy0 : jkd y0 5) (hy1 : jkd y1 1) (n : Nat) (x2 : Int32) (M : SM), J (fun (q5 : SM) => Wk p l e R s m args below meth c G 3 Q 0 0 jN0 (jce G q5) 36 [some (.ref y0), some (.ref y1), none] []) (lp_Po_beginTold_6 y0 y1 n x2 M) (Wk p l e R s m args below meth c G 3 Q 0 0 jN0 (jce G M) 6 [some (.ref y0), some (.ref y1), some (.int x2)] []) := by
    intro y0 y1 hy0 hy1 n
    induction n with
    | zero => intro x2 M; exact J_none
    | succ n ih =>
      intro x2 M
      unfold lp_Po_beginTold_6
      refine J_mono (w_iload_n C (jd jdt_Po_beginTold 4 rfl) rfl) ?_
      refine J_mono (w_aload_n C (jd jdt_Po_beginTold 5 rfl) rfl) ?_
      refine J_mono (jg_Po_34 C hy1 (jd jdt_Po_beginTold 6 rfl)) ?_
      refine J_br (w_icmp_ge C (jd jdt_Po_beginTold 7 rfl) rfl) (fun h2 => J_pos h2 ?_) (fun h2 => J_neg h2 ?_)
      · refine J_mono (w_aload_n C (jd jdt_Po_beginTold 8 rfl) rfl) ?_
        refine J_mono (jg_Po_9 C hy0 (jd jdt_Po_beginTold 9 rfl)) ?_
        refine J_mono (w_iload_n C (jd jdt_Po_beginTold 10 rfl) rfl) ?_
        refine J_mono (w_aload_n C (jd jdt_Po_beginTold 11 rfl) rfl) ?_
        refine J_mono (jg_Po_39 C hy1 (jd jdt_Po_beginTold 12 rfl)) ?_
        refine J_mono (w_iload_n C (jd jdt_Po_beginTold 13 rfl) rfl) ?_
        refine J_bind (fun q3 hq3 => ?_)
        refine J_mono (jc_Po_40 C (C_Sp_at l G F (jpf y1 6) x2 (jkf_1_6 hy1) M hq3) rfl (Nat.le_trans (Nat.le_of_ble_eq_true rfl : 1 + 1 ≤ 3) hD) (jd jdt_Po_beginTold 14 rfl)) ?_
        refine J_bind (fun q4 hq4 => ?_)
        refine J_mono (jc_Po_44 C (C_Sp_put l G F (jpf y0 0) x2 q3 (jkf_5_0 hy0) M hq4) rfl (Nat.le_trans (Nat.le_of_ble_eq_true rfl : 1 + 1 ≤ 3) hD) (jd jdt_Po_beginTold 15 rfl)) ?_
        refine J_mono (w_iinc (v := x2 + 1) (ls' := [some (.ref y0), some (.ref y1), some (.int (x2 + 1))]) C (jd jdt_Po_beginTold 16 rfl) rfl rfl (by decide) rfl rfl) ?_
        refine J_mono (w_goto C (jd jdt_Po_beginTold 17 rfl) rfl) ?_
        exact J_sub (ih (x2 + 1) q4) ⟨rfl, rfl, rfl, trivial⟩
      · exact J_some (fun hx => Wk_sb hx ⟨rfl, rfl, trivial⟩)
  refine J_seq (fun (q5 : SM) => Wk p l e R s m args below meth c G 3 Q 0 0 jN0 (jce G q5) 36 [some (.ref a0), some (.ref a1), none] []) (J_sub (L6 a0 a1 hp0 hp1 jfuel 0 q1) ⟨rfl, rfl, rfl, trivial⟩) (fun q5 hq5 => ?_)
  refine J_mono (w_iconst_0 C (jd jdt_Po_beginTold 18 rfl)) ?_
  refine J_mono (w_istore_n (ls' := [some (.ref a0), some (.ref a1), some (.int 0)]) C (jd jdt_Po_beginTold 19 rfl) (by decide) rfl rfl) ?_
  have L38 : ∀ (y0 : Nat) (y1 : Nat) (hy0 : jkd y0 5) (hy1 : jkd y1 1) (n : Nat) (x2 : Int32) (M : SM), J (fun (q9 : SM) => Wk p l e R s m args below meth c G 3 Q 0 0 jN0 (jce G q9) 71 [some (.ref y0), none, none] []) (lp_Po_beginTold_38 y0 y1 n x2 M) (Wk p l e R s m args below meth c G 3 Q 0 0 jN0 (jce G M) 38 [some (.ref y0), some (.ref y1), some (.int x2)] []) := by
    intro y0 y1 hy0 hy1 n
    induction n with
    | zero => intro x2 M; exact J_none
    | succ n ih =>
      intro x2 M
      unfold lp_Po_beginTold_38
      refine J_mono (w_iload_n C (jd jdt_Po_beginTold 20 rfl) rfl) ?_
      refine J_mono (w_aload_n C (jd jdt_Po_beginTold 21 rfl) rfl) ?_
      refine J_mono (jg_Po_48 C hy1 (jd jdt_Po_beginTold 22 rfl)) ?_
      refine J_mono (jg_Po_51 C (jkf_1_11 hy1) (jd jdt_Po_beginTold 23 rfl)) ?_
      refine J_br (w_icmp_ge C (jd jdt_Po_beginTold 24 rfl) rfl) (fun h6 => J_pos h6 ?_) (fun h6 => J_neg h6 ?_)
      · refine J_mono (w_aload_n C (jd jdt_Po_beginTold 25 rfl) rfl) ?_
        refine J_mono (jg_Po_15 C hy0 (jd jdt_Po_beginTold 26 rfl)) ?_
        refine J_mono (w_iload_n C (jd jdt_Po_beginTold 27 rfl) rfl) ?_
        refine J_mono (w_aload_n C (jd jdt_Po_beginTold 28 rfl) rfl) ?_
        refine J_mono (jg_Po_48 C hy1 (jd jdt_Po_beginTold 29 rfl)) ?_
        refine J_mono (w_iload_n C (jd jdt_Po_beginTold 30 rfl) rfl) ?_
        refine J_bind (fun q7 hq7 => ?_)
        refine J_mono (jc_Po_56 C (jkf_1_11 hy1) (C_St_cellOfOne l G F (jpf y1 11) x2 (jkf_1_11 hy1) M hq7) rfl (Nat.le_trans (Nat.le_of_ble_eq_true rfl : 2 + 1 ≤ 3) hD) (jd jdt_Po_beginTold 31 rfl)) ?_
        refine J_bind (fun q8 hq8 => ?_)
        refine J_mono (jc_Po_44 C (C_Sp_put l G F (jpf y0 1) x2 q7 (jkf_5_1 hy0) M hq8) rfl (Nat.le_trans (Nat.le_of_ble_eq_true rfl : 1 + 1 ≤ 3) hD) (jd jdt_Po_beginTold 32 rfl)) ?_
        refine J_mono (w_iinc (v := x2 + 1) (ls' := [some (.ref y0), some (.ref y1), some (.int (x2 + 1))]) C (jd jdt_Po_beginTold 33 rfl) rfl rfl (by decide) rfl rfl) ?_
        refine J_mono (w_goto C (jd jdt_Po_beginTold 34 rfl) rfl) ?_
        exact J_sub (ih (x2 + 1) q8) ⟨rfl, rfl, rfl, trivial⟩
      · exact J_some (fun hx => Wk_sb hx ⟨rfl, trivial⟩)
  refine J_seq (fun (q9 : SM) => Wk p l e R s m args below meth c G 3 Q 0 0 jN0 (jce G q9) 71 [some (.ref a0), none, none] []) (J_sub (L38 a0 a1 hp0 hp1 jfuel 0 q5) ⟨rfl, rfl, rfl, trivial⟩) (fun q9 hq9 => ?_)
  refine J_mono (w_aload_n C (jd jdt_Po_beginTold 35 rfl) rfl) ?_
  refine J_mono (w_iconst_0 C (jd jdt_Po_beginTold 36 rfl)) ?_
  refine J_mono (jp_Po_60 C F hp0 (jd jdt_Po_beginTold 37 rfl)) ?_
  refine J_mono (w_aload_n C (jd jdt_Po_beginTold 38 rfl) rfl) ?_
  refine J_mono (w_iconst_0 C (jd jdt_Po_beginTold 39 rfl)) ?_
  refine J_mono (jp_Po_63 C F hp0 (jd jdt_Po_beginTold 40 rfl)) ?_
  refine J_mono (w_aload_n C (jd jdt_Po_beginTold 41 rfl) rfl) ?_
  refine J_mono (w_iconst_0 C (jd jdt_Po_beginTold 42 rfl)) ?_
  refine J_mono (jp_Po_66 C F hp0 (jd jdt_Po_beginTold 43 rfl)) ?_
  refine J_mono (w_aload_n C (jd jdt_Po_beginTold 44 rfl) rfl) ?_
  refine J_mono (w_iconst_0 C (jd jdt_Po_beginTold 45 rfl)) ?_
  refine J_mono (jp_Po_69 C F hp0 (jd jdt_Po_beginTold 46 rfl)) ?_
  refine J_mono (w_aload_n C (jd jdt_Po_beginTold 47 rfl) rfl) ?_
  refine J_mono (w_iconst_0 C (jd jdt_Po_beginTold 48 rfl)) ?_
  refine J_mono (jp_Po_72 C F hp0 (Or.inl rfl) (jd jdt_Po_beginTold 49 rfl)) ?_
  exact J_some (fun hx => hR (sI (sI (sI (sI (sI q9 a0 2 0) a0 3 0) a0 4 0) a0 5 0) a0 6 0) hx _ _ (jd jdt_Po_beginTold 50 rfl))
end
theorem C_Po_beginTold (l : Launch) (G : JG) (F : jF G = false) (a0 : Nat) (a1 : Nat) (hp0 : jkd a0 5) (hp1 : jkd a1 1) (M : SM) {q : SM} (hf : f_Po_beginTold a0 a1 M = some q) : jMet l jy_Po_beginTold jb_Po_beginTold 3 none 3 0 0 G [.ref a0, .ref a1] jN0 (jce G M) none jN0 (jce G q) :=
  j_met jo_Po_beginTold (by decide) (Nat.le_of_ble_eq_true rfl) (fun p e s m args below meth c C hr hm => K_Po_beginTold C F (Nat.le_refl _) a0 a1 hp0 hp1 M (fun t => t = q) (fun M' hX pc ls hd => by cases hX; exact w_vret C hr hd) _ hf rfl)
def f_Po_boatCell (a0 : Nat) (a1 : Int32) (M : SM) : Option Int32 := (f_Sp_at (jpf a0 1) a1 M).bind fun q1 => some q1
section
variable {p : Program} {l : Launch} {e : Env} {R : Room} {s : State} {m : MethodId} {args : Array Value} {below : List Frame} {meth : Method} {c : Code} {G : JG} {D : Nat} {Q : State → Prop}
set_option maxHeartbeats 4000000 in
set_option maxRecDepth 20000 in
theorem K_Po_boatCell (C : jCx p R s m args meth c G jb_Po_boatCell 2 D "SluicePit$Pool") (F : jF G = false) (hD : 2 ≤ D) (a0 : Nat) (a1 : Int32) (hp0 : jkd a0 5) (M : SM) (X : Int32 → Prop) (hR : ∀ v, X v → ∀ (pc : Nat) (ls : List (Option Value)), decode jb_Po_boatCell pc = .ok (.ireturn, 1) → narrow FieldType.int (.int v) = .int v → Wk p l e R s m args below meth c G 2 Q 0 0 jN0 (jce G M) pc ls [.int v]) : J X (f_Po_boatCell a0 a1 M) (Wk p l e R s m args below meth c G 2 Q 0 0 jN0 (jce G M) 0 [some (.ref a0), some (.int a1)] []) := by
  unfold f_Po_boatCell
  refine J_mono (w_aload_n C (jd jdt_Po_boatCell 0 rfl) rfl) ?_
  refine J_mono (jg_Po_15 C hp0 (jd jdt_Po_boatCell 1 rfl)) ?_
  refine J_mono (w_iload_n C (jd jdt_Po_boatCell 2 rfl) rfl) ?_
  refine J_bind (fun q1 hq1 => ?_)
  refine J_mono (jc_Po_40 C (C_Sp_at l G F (jpf a0 1) a1 (jkf_5_1 hp0) M hq1) rfl (Nat.le_trans (Nat.le_of_ble_eq_true rfl : 1 + 1 ≤ 2) hD) (jd jdt_Po_boatCell 3 rfl)) ?_
  exact J_some (fun hx => hR q1 hx _ _ (jd jdt_Po_boatCell 4 rfl) rfl)
end
theorem C_Po_boatCell (l : Launch) (G : JG) (F : jF G = false) (a0 : Nat) (a1 : Int32) (hp0 : jkd a0 5) (M : SM) {q : Int32} (hf : f_Po_boatCell a0 a1 M = some q) : jMet l jy_Po_boatCell jb_Po_boatCell 2 (some FieldType.int) 2 0 0 G [.ref a0, .int a1] jN0 (jce G M) (some (.int q)) jN0 (jce G M) :=
  j_met jo_Po_boatCell (by decide) (Nat.le_of_ble_eq_true rfl) (fun p e s m args below meth c C hr hm => K_Po_boatCell C F (Nat.le_refl _) a0 a1 hp0 M (fun t => t = q) (fun v hX pc ls hd hn => by cases hX; exact w_iret C hr hn hd) _ hf rfl)
def f_Ru_measure (a0 : Nat) (a1 : Int32) (a2 : Int32) (M : SM) : Option Int32 := (f_Sp_cellOf (jpf a0 2) a1 a2 M).bind fun q1 => some q1
section
variable {p : Program} {l : Launch} {e : Env} {R : Room} {s : State} {m : MethodId} {args : Array Value} {below : List Frame} {meth : Method} {c : Code} {G : JG} {D : Nat} {Q : State → Prop}
set_option maxHeartbeats 4000000 in
set_option maxRecDepth 20000 in
theorem K_Ru_measure (C : jCx p R s m args meth c G jb_Ru_measure 3 D "SluicePit$Run") (F : jF G = false) (hD : 2 ≤ D) (a0 : Nat) (a1 : Int32) (a2 : Int32) (hp0 : jkd a0 8) (M : SM) (X : Int32 → Prop) (hR : ∀ v, X v → ∀ (pc : Nat) (ls : List (Option Value)), decode jb_Ru_measure pc = .ok (.ireturn, 1) → narrow FieldType.int (.int v) = .int v → Wk p l e R s m args below meth c G 3 Q 0 0 jN0 (jce G M) pc ls [.int v]) : J X (f_Ru_measure a0 a1 a2 M) (Wk p l e R s m args below meth c G 3 Q 0 0 jN0 (jce G M) 0 [some (.ref a0), some (.int a1), some (.int a2)] []) := by
  unfold f_Ru_measure
  refine J_mono (w_aload_n C (jd jdt_Ru_measure 0 rfl) rfl) ?_
  refine J_mono (jg_Ru_19 C hp0 (jd jdt_Ru_measure 1 rfl)) ?_
  refine J_mono (w_iload_n C (jd jdt_Ru_measure 2 rfl) rfl) ?_
  refine J_mono (w_iload_n C (jd jdt_Ru_measure 3 rfl) rfl) ?_
  refine J_bind (fun q1 hq1 => ?_)
  refine J_mono (jc_Ru_22 C (C_Sp_cellOf l G F (jpf a0 2) a1 a2 (jkf_8_2 hp0) M hq1) rfl (Nat.le_trans (Nat.le_of_ble_eq_true rfl : 1 + 1 ≤ 2) hD) (jd jdt_Ru_measure 4 rfl)) ?_
  exact J_some (fun hx => hR q1 hx _ _ (jd jdt_Ru_measure 5 rfl) rfl)
end
theorem C_Ru_measure (l : Launch) (G : JG) (F : jF G = false) (a0 : Nat) (a1 : Int32) (a2 : Int32) (hp0 : jkd a0 8) (M : SM) {q : Int32} (hf : f_Ru_measure a0 a1 a2 M = some q) : jMet l jy_Ru_measure jb_Ru_measure 3 (some FieldType.int) 2 0 0 G [.ref a0, .int a1, .int a2] jN0 (jce G M) (some (.int q)) jN0 (jce G M) :=
  j_met jo_Ru_measure (by decide) (Nat.le_of_ble_eq_true rfl) (fun p e s m args below meth c C hr hm => K_Ru_measure C F (Nat.le_refl _) a0 a1 a2 hp0 M (fun t => t = q) (fun v hX pc ls hd hn => by cases hX; exact w_iret C hr hn hd) _ hf rfl)
def lp_Ru_keep_6 (y0 : Nat) (y1 : Nat) (y2 : Nat) (y3 : Int32) : Nat → Int32 → Int32 → SM → Option (Int32 × SM)
  | 0, _, _, _ => none
  | n + 1, x4, x5, M => if x5 < (M.1 y1 1) then ((f_Sp_at (jpf y2 0) x5 M).bind fun q2 => (f_Sp_putCell (jpf y0 0) y3 x5 q2 M).bind fun q3 => lp_Ru_keep_6 y0 y1 y2 y3 n (x4 + q2) (x5 + 1) q3) else (some (x4, M))
def lp_Ru_keep_54 (y0 : Nat) (y1 : Nat) (y2 : Nat) (y3 : Int32) : Nat → Int32 → SM → Option (SM)
  | 0, _, _ => none
  | n + 1, x5, M => if x5 < (M.1 (jpf y1 11) 2) then ((f_Po_boatCell y2 x5 M).bind fun q6 => (f_Sp_putCell (jpf y0 1) y3 x5 q6 M).bind fun q7 => lp_Ru_keep_54 y0 y1 y2 y3 n (x5 + 1) q7) else (some M)
def f_Ru_keep (a0 : Nat) (a1 : Nat) (a2 : Nat) (a3 : Int32) (M : SM) : Option SM := (lp_Ru_keep_6 a0 a1 a2 a3 jfuel 0 0 M).bind fun q4 => (lp_Ru_keep_54 a0 a1 a2 a3 jfuel 0 q4.2).bind fun q8 => (f_Sp_putCell (jpf a0 2) a3 0 (q8.1 a2 2) q8).bind fun q9 => (f_Sp_putCell (jpf a0 2) a3 1 (q9.1 a2 3) q9).bind fun q10 => (f_Sp_putCell (jpf a0 2) a3 2 (q10.1 a2 4) q10).bind fun q11 => (f_Sp_putCell (jpf a0 2) a3 3 (q11.1 a2 5) q11).bind fun q12 => (f_Sp_putCell (jpf a0 2) a3 4 q4.1 q12).bind fun q13 => (f_Ru_measure a0 (a3 - 1) 5 q13).bind fun q14 => (if (q13.1 a2 6) = 0 then (some 0) else (some 1) : Option (Int32)).bind fun q15 => (f_Sp_putCell (jpf a0 2) a3 5 (q14 + q15) q13).bind fun q17 => some q17
section
variable {p : Program} {l : Launch} {e : Env} {R : Room} {s : State} {m : MethodId} {args : Array Value} {below : List Frame} {meth : Method} {c : Code} {G : JG} {D : Nat} {Q : State → Prop}
set_option maxHeartbeats 4000000 in
set_option maxRecDepth 20000 in
theorem K_Ru_keep (C : jCx p R s m args meth c G jb_Ru_keep 7 D "SluicePit$Run") (F : jF G = false) (hD : 3 ≤ D) (a0 : Nat) (a1 : Nat) (a2 : Nat) (a3 : Int32) (hp0 : jkd a0 8) (hp1 : jkd a1 1) (hp2 : jkd a2 5) (M : SM) (X : SM → Prop) (hR : ∀ M', X M' → ∀ (pc : Nat) (ls : List (Option Value)), decode jb_Ru_keep pc = .ok (.return_, 1) → Wk p l e R s m args below meth c G 7 Q 0 0 jN0 (jce G M') pc ls []) : J X (f_Ru_keep a0 a1 a2 a3 M) (Wk p l e R s m args below meth c G 7 Q 0 0 jN0 (jce G M) 0 [some (.ref a0), some (.ref a1), some (.ref a2), some (.int a3), none, none, none] []) := by
  unfold f_Ru_keep
  refine J_mono (w_iconst_0 C (jd jdt_Ru_keep 0 rfl)) ?_
  refine J_mono (w_istore (ls' := [some (.ref a0), some (.ref a1), some (.ref a2), some (.int a3), some (.int 0), none, none]) C (jd jdt_Ru_keep 1 rfl) (by decide) rfl rfl) ?_
  refine J_mono (w_iconst_0 C (jd jdt_Ru_keep 2 rfl)) ?_
  refine J_mono (w_istore (ls' := [some (.ref a0), some (.ref a1), some (.ref a2), some (.int a3), some (.int 0), some (.int 0), none]) C (jd jdt_Ru_keep 3 rfl) (by decide) rfl rfl) ?_
  have L6 : ∀ (y0 : Nat) (y1 : Nat) (y2 : Nat) (y3 : Int32) (hy0 : jkd y0 8) (hy1 : jkd y1 1) (hy2 : jkd y2 5) (n : Nat) (x4 : Int32) (x5 : Int32) (M : SM), J (fun (q4 : Int32 × SM) => Wk p l e R s m args below meth c G 7 Q 0 0 jN0 (jce G q4.2) 51 [some (.ref y0), some (.ref y1), some (.ref y2), some (.int y3), some (.int q4.1), none, none] []) (lp_Ru_keep_6 y0 y1 y2 y3 n x4 x5 M) (Wk p l e R s m args below meth c G 7 Q 0 0 jN0 (jce G M) 6 [some (.ref y0), some (.ref y1), some (.ref y2), some (.int y3), some (.int x4), some (.int x5), none] []) := by
    intro y0 y1 y2 y3 hy0 hy1 hy2 n
    induction n with
    | zero => intro x4 x5 M; exact J_none
    | succ n ih =>
      intro x4 x5 M
      unfold lp_Ru_keep_6
      refine J_mono (w_iload C (jd jdt_Ru_keep 4 rfl) rfl) ?_
      refine J_mono (w_aload_n C (jd jdt_Ru_keep 5 rfl) rfl) ?_
      refine J_mono (jg_Ru_40 C hy1 (jd jdt_Ru_keep 6 rfl)) ?_
      refine J_br (w_icmp_ge C (jd jdt_Ru_keep 7 rfl) rfl) (fun h1 => J_pos h1 ?_) (fun h1 => J_neg h1 ?_)
      · refine J_mono (w_aload_n C (jd jdt_Ru_keep 8 rfl) rfl) ?_
        refine J_mono (jg_Ru_46 C hy2 (jd jdt_Ru_keep 9 rfl)) ?_
        refine J_mono (w_iload C (jd jdt_Ru_keep 10 rfl) rfl) ?_
        refine J_bind (fun q2 hq2 => ?_)
        refine J_mono (jc_Ru_50 C (C_Sp_at l G F (jpf y2 0) x5 (jkf_5_0 hy2) M hq2) rfl (Nat.le_trans (Nat.le_of_ble_eq_true rfl : 1 + 1 ≤ 3) hD) (jd jdt_Ru_keep 11 rfl)) ?_
        refine J_mono (w_istore (ls' := [some (.ref y0), some (.ref y1), some (.ref y2), some (.int y3), some (.int x4), some (.int x5), some (.int q2)]) C (jd jdt_Ru_keep 12 rfl) (by decide) rfl rfl) ?_
        refine J_mono (w_aload_n C (jd jdt_Ru_keep 13 rfl) rfl) ?_
        refine J_mono (jg_Ru_11 C hy0 (jd jdt_Ru_keep 14 rfl)) ?_
        refine J_mono (w_iload_n C (jd jdt_Ru_keep 15 rfl) rfl) ?_
        refine J_mono (w_iload C (jd jdt_Ru_keep 16 rfl) rfl) ?_
        refine J_mono (w_iload C (jd jdt_Ru_keep 17 rfl) rfl) ?_
        refine J_bind (fun q3 hq3 => ?_)
        refine J_mono (jc_Ru_54 C (C_Sp_putCell l G F (jpf y0 0) y3 x5 q2 (jkf_8_0 hy0) M hq3) rfl (Nat.le_trans (Nat.le_of_ble_eq_true rfl : 1 + 1 ≤ 3) hD) (jd jdt_Ru_keep 18 rfl)) ?_
        refine J_mono (w_iload C (jd jdt_Ru_keep 19 rfl) rfl) ?_
        refine J_mono (w_iload C (jd jdt_Ru_keep 20 rfl) rfl) ?_
        refine J_mono (w_iadd C (jd jdt_Ru_keep 21 rfl)) ?_
        refine J_mono (w_istore (ls' := [some (.ref y0), some (.ref y1), some (.ref y2), some (.int y3), some (.int (x4 + q2)), some (.int x5), some (.int q2)]) C (jd jdt_Ru_keep 22 rfl) (by decide) rfl rfl) ?_
        refine J_mono (w_iinc (v := x5 + 1) (ls' := [some (.ref y0), some (.ref y1), some (.ref y2), some (.int y3), some (.int (x4 + q2)), some (.int (x5 + 1)), some (.int q2)]) C (jd jdt_Ru_keep 23 rfl) rfl rfl (by decide) rfl rfl) ?_
        refine J_mono (w_goto C (jd jdt_Ru_keep 24 rfl) rfl) ?_
        exact J_sub (ih (x4 + q2) (x5 + 1) q3) ⟨rfl, rfl, rfl, rfl, rfl, rfl, trivial⟩
      · exact J_some (fun hx => Wk_sb hx ⟨rfl, rfl, rfl, rfl, rfl, trivial⟩)
  refine J_seq (fun (q4 : Int32 × SM) => Wk p l e R s m args below meth c G 7 Q 0 0 jN0 (jce G q4.2) 51 [some (.ref a0), some (.ref a1), some (.ref a2), some (.int a3), some (.int q4.1), none, none] []) (J_sub (L6 a0 a1 a2 a3 hp0 hp1 hp2 jfuel 0 0 M) ⟨rfl, rfl, rfl, rfl, rfl, rfl, trivial⟩) (fun q4 hq4 => ?_)
  refine J_mono (w_iconst_0 C (jd jdt_Ru_keep 25 rfl)) ?_
  refine J_mono (w_istore (ls' := [some (.ref a0), some (.ref a1), some (.ref a2), some (.int a3), some (.int q4.1), some (.int 0), none]) C (jd jdt_Ru_keep 26 rfl) (by decide) rfl rfl) ?_
  have L54 : ∀ (y0 : Nat) (y1 : Nat) (y2 : Nat) (y3 : Int32) (y4 : Int32) (hy0 : jkd y0 8) (hy1 : jkd y1 1) (hy2 : jkd y2 5) (n : Nat) (x5 : Int32) (M : SM), J (fun (q8 : SM) => Wk p l e R s m args below meth c G 7 Q 0 0 jN0 (jce G q8) 88 [some (.ref y0), none, some (.ref y2), some (.int y3), some (.int y4), none, none] []) (lp_Ru_keep_54 y0 y1 y2 y3 n x5 M) (Wk p l e R s m args below meth c G 7 Q 0 0 jN0 (jce G M) 54 [some (.ref y0), some (.ref y1), some (.ref y2), some (.int y3), some (.int y4), some (.int x5), none] []) := by
    intro y0 y1 y2 y3 y4 hy0 hy1 hy2 n
    induction n with
    | zero => intro x5 M; exact J_none
    | succ n ih =>
      intro x5 M
      unfold lp_Ru_keep_54
      refine J_mono (w_iload C (jd jdt_Ru_keep 27 rfl) rfl) ?_
      refine J_mono (w_aload_n C (jd jdt_Ru_keep 28 rfl) rfl) ?_
      refine J_mono (jg_Ru_58 C hy1 (jd jdt_Ru_keep 29 rfl)) ?_
      refine J_mono (jg_Ru_61 C (jkf_1_11 hy1) (jd jdt_Ru_keep 30 rfl)) ?_
      refine J_br (w_icmp_ge C (jd jdt_Ru_keep 31 rfl) rfl) (fun h5 => J_pos h5 ?_) (fun h5 => J_neg h5 ?_)
      · refine J_mono (w_aload_n C (jd jdt_Ru_keep 32 rfl) rfl) ?_
        refine J_mono (jg_Ru_16 C hy0 (jd jdt_Ru_keep 33 rfl)) ?_
        refine J_mono (w_iload_n C (jd jdt_Ru_keep 34 rfl) rfl) ?_
        refine J_mono (w_iload C (jd jdt_Ru_keep 35 rfl) rfl) ?_
        refine J_mono (w_aload_n C (jd jdt_Ru_keep 36 rfl) rfl) ?_
        refine J_mono (w_iload C (jd jdt_Ru_keep 37 rfl) rfl) ?_
        refine J_bind (fun q6 hq6 => ?_)
        refine J_mono (jc_Ru_66 C hy2 (C_Po_boatCell l G F y2 x5 hy2 M hq6) rfl (Nat.le_trans (Nat.le_of_ble_eq_true rfl : 2 + 1 ≤ 3) hD) (jd jdt_Ru_keep 38 rfl)) ?_
        refine J_bind (fun q7 hq7 => ?_)
        refine J_mono (jc_Ru_54 C (C_Sp_putCell l G F (jpf y0 1) y3 x5 q6 (jkf_8_1 hy0) M hq7) rfl (Nat.le_trans (Nat.le_of_ble_eq_true rfl : 1 + 1 ≤ 3) hD) (jd jdt_Ru_keep 39 rfl)) ?_
        refine J_mono (w_iinc (v := x5 + 1) (ls' := [some (.ref y0), some (.ref y1), some (.ref y2), some (.int y3), some (.int y4), some (.int (x5 + 1)), none]) C (jd jdt_Ru_keep 40 rfl) rfl rfl (by decide) rfl rfl) ?_
        refine J_mono (w_goto C (jd jdt_Ru_keep 41 rfl) rfl) ?_
        exact J_sub (ih (x5 + 1) q7) ⟨rfl, rfl, rfl, rfl, rfl, rfl, trivial⟩
      · exact J_some (fun hx => Wk_sb hx ⟨rfl, rfl, rfl, rfl, trivial⟩)
  refine J_seq (fun (q8 : SM) => Wk p l e R s m args below meth c G 7 Q 0 0 jN0 (jce G q8) 88 [some (.ref a0), none, some (.ref a2), some (.int a3), some (.int q4.1), none, none] []) (J_sub (L54 a0 a1 a2 a3 q4.1 hp0 hp1 hp2 jfuel 0 q4.2) ⟨rfl, rfl, rfl, rfl, rfl, rfl, trivial⟩) (fun q8 hq8 => ?_)
  refine J_mono (w_aload_n C (jd jdt_Ru_keep 42 rfl) rfl) ?_
  refine J_mono (jg_Ru_19 C hp0 (jd jdt_Ru_keep 43 rfl)) ?_
  refine J_mono (w_iload_n C (jd jdt_Ru_keep 44 rfl) rfl) ?_
  refine J_mono (w_iconst_0 C (jd jdt_Ru_keep 45 rfl)) ?_
  refine J_mono (w_aload_n C (jd jdt_Ru_keep 46 rfl) rfl) ?_
  refine J_mono (jg_Ru_70 C hp2 (jd jdt_Ru_keep 47 rfl)) ?_
  refine J_bind (fun q9 hq9 => ?_)
  refine J_mono (jc_Ru_54 C (C_Sp_putCell l G F (jpf a0 2) a3 0 (q8.1 a2 2) (jkf_8_2 hp0) q8 hq9) rfl (Nat.le_trans (Nat.le_of_ble_eq_true rfl : 1 + 1 ≤ 3) hD) (jd jdt_Ru_keep 48 rfl)) ?_
  refine J_mono (w_aload_n C (jd jdt_Ru_keep 49 rfl) rfl) ?_
  refine J_mono (jg_Ru_19 C hp0 (jd jdt_Ru_keep 50 rfl)) ?_
  refine J_mono (w_iload_n C (jd jdt_Ru_keep 51 rfl) rfl) ?_
  refine J_mono (w_iconst_1 C (jd jdt_Ru_keep 52 rfl)) ?_
  refine J_mono (w_aload_n C (jd jdt_Ru_keep 53 rfl) rfl) ?_
  refine J_mono (jg_Ru_73 C hp2 (jd jdt_Ru_keep 54 rfl)) ?_
  refine J_bind (fun q10 hq10 => ?_)
  refine J_mono (jc_Ru_54 C (C_Sp_putCell l G F (jpf a0 2) a3 1 (q9.1 a2 3) (jkf_8_2 hp0) q9 hq10) rfl (Nat.le_trans (Nat.le_of_ble_eq_true rfl : 1 + 1 ≤ 3) hD) (jd jdt_Ru_keep 55 rfl)) ?_
  refine J_mono (w_aload_n C (jd jdt_Ru_keep 56 rfl) rfl) ?_
  refine J_mono (jg_Ru_19 C hp0 (jd jdt_Ru_keep 57 rfl)) ?_
  refine J_mono (w_iload_n C (jd jdt_Ru_keep 58 rfl) rfl) ?_
  refine J_mono (w_iconst_2 C (jd jdt_Ru_keep 59 rfl)) ?_
  refine J_mono (w_aload_n C (jd jdt_Ru_keep 60 rfl) rfl) ?_
  refine J_mono (jg_Ru_76 C hp2 (jd jdt_Ru_keep 61 rfl)) ?_
  refine J_bind (fun q11 hq11 => ?_)
  refine J_mono (jc_Ru_54 C (C_Sp_putCell l G F (jpf a0 2) a3 2 (q10.1 a2 4) (jkf_8_2 hp0) q10 hq11) rfl (Nat.le_trans (Nat.le_of_ble_eq_true rfl : 1 + 1 ≤ 3) hD) (jd jdt_Ru_keep 62 rfl)) ?_
  refine J_mono (w_aload_n C (jd jdt_Ru_keep 63 rfl) rfl) ?_
  refine J_mono (jg_Ru_19 C hp0 (jd jdt_Ru_keep 64 rfl)) ?_
  refine J_mono (w_iload_n C (jd jdt_Ru_keep 65 rfl) rfl) ?_
  refine J_mono (w_iconst_3 C (jd jdt_Ru_keep 66 rfl)) ?_
  refine J_mono (w_aload_n C (jd jdt_Ru_keep 67 rfl) rfl) ?_
  refine J_mono (jg_Ru_79 C hp2 (jd jdt_Ru_keep 68 rfl)) ?_
  refine J_bind (fun q12 hq12 => ?_)
  refine J_mono (jc_Ru_54 C (C_Sp_putCell l G F (jpf a0 2) a3 3 (q11.1 a2 5) (jkf_8_2 hp0) q11 hq12) rfl (Nat.le_trans (Nat.le_of_ble_eq_true rfl : 1 + 1 ≤ 3) hD) (jd jdt_Ru_keep 69 rfl)) ?_
  refine J_mono (w_aload_n C (jd jdt_Ru_keep 70 rfl) rfl) ?_
  refine J_mono (jg_Ru_19 C hp0 (jd jdt_Ru_keep 71 rfl)) ?_
  refine J_mono (w_iload_n C (jd jdt_Ru_keep 72 rfl) rfl) ?_
  refine J_mono (w_iconst_4 C (jd jdt_Ru_keep 73 rfl)) ?_
  refine J_mono (w_iload C (jd jdt_Ru_keep 74 rfl) rfl) ?_
  refine J_bind (fun q13 hq13 => ?_)
  refine J_mono (jc_Ru_54 C (C_Sp_putCell l G F (jpf a0 2) a3 4 q4.1 (jkf_8_2 hp0) q12 hq13) rfl (Nat.le_trans (Nat.le_of_ble_eq_true rfl : 1 + 1 ≤ 3) hD) (jd jdt_Ru_keep 75 rfl)) ?_
  refine J_mono (w_aload_n C (jd jdt_Ru_keep 76 rfl) rfl) ?_
  refine J_mono (jg_Ru_19 C hp0 (jd jdt_Ru_keep 77 rfl)) ?_
  refine J_mono (w_iload_n C (jd jdt_Ru_keep 78 rfl) rfl) ?_
  refine J_mono (w_iconst_5 C (jd jdt_Ru_keep 79 rfl)) ?_
  refine J_mono (w_aload_n C (jd jdt_Ru_keep 80 rfl) rfl) ?_
  refine J_mono (w_iload_n C (jd jdt_Ru_keep 81 rfl) rfl) ?_
  refine J_mono (w_iconst_1 C (jd jdt_Ru_keep 82 rfl)) ?_
  refine J_mono (w_isub C (jd jdt_Ru_keep 83 rfl)) ?_
  refine J_mono (w_iconst_5 C (jd jdt_Ru_keep 84 rfl)) ?_
  refine J_bind (fun q14 hq14 => ?_)
  refine J_mono (jc_Ru_82 C hp0 (C_Ru_measure l G F a0 (a3 - 1) 5 hp0 q13 hq14) rfl (Nat.le_trans (Nat.le_of_ble_eq_true rfl : 2 + 1 ≤ 3) hD) (jd jdt_Ru_keep 85 rfl)) ?_
  refine J_mono (w_aload_n C (jd jdt_Ru_keep 86 rfl) rfl) ?_
  refine J_mono (jg_Ru_86 C hp2 (jd jdt_Ru_keep 87 rfl)) ?_
  refine J_seq (fun (q15 : Int32) => Wk p l e R s m args below meth c G 7 Q 0 0 jN0 (jce G q13) 177 [none, none, none, none, none, none, none] [.int q15, .int q14, .int 5, .int a3, .ref (jpf a0 2)]) ?_ (fun q15 hq15 => ?_)
  · refine J_br (w_if_eq (y := 0) C (jd jdt_Ru_keep 88 rfl) rfl) (fun h16 => J_pos h16 ?_) (fun h16 => J_neg h16 ?_)
    · refine J_mono (w_iconst_0 C (jd jdt_Ru_keep 91 rfl)) ?_
      exact J_some (fun hx => Wk_sb hx trivial)
    · refine J_mono (w_iconst_1 C (jd jdt_Ru_keep 89 rfl)) ?_
      refine J_mono (w_goto C (jd jdt_Ru_keep 90 rfl) rfl) ?_
      exact J_some (fun hx => Wk_sb hx trivial)
  · refine J_mono (w_iadd C (jd jdt_Ru_keep 92 rfl)) ?_
    refine J_bind (fun q17 hq17 => ?_)
    refine J_mono (jc_Ru_54 C (C_Sp_putCell l G F (jpf a0 2) a3 5 (q14 + q15) (jkf_8_2 hp0) q13 hq17) rfl (Nat.le_trans (Nat.le_of_ble_eq_true rfl : 1 + 1 ≤ 3) hD) (jd jdt_Ru_keep 93 rfl)) ?_
    exact J_some (fun hx => hR q17 hx _ _ (jd jdt_Ru_keep 94 rfl))
end
theorem C_Ru_keep (l : Launch) (G : JG) (F : jF G = false) (a0 : Nat) (a1 : Nat) (a2 : Nat) (a3 : Int32) (hp0 : jkd a0 8) (hp1 : jkd a1 1) (hp2 : jkd a2 5) (M : SM) {q : SM} (hf : f_Ru_keep a0 a1 a2 a3 M = some q) : jMet l jy_Ru_keep jb_Ru_keep 7 none 3 0 0 G [.ref a0, .ref a1, .ref a2, .int a3] jN0 (jce G M) none jN0 (jce G q) :=
  j_met jo_Ru_keep (by decide) (Nat.le_of_ble_eq_true rfl) (fun p e s m args below meth c C hr hm => K_Ru_keep C F (Nat.le_refl _) a0 a1 a2 a3 hp0 hp1 hp2 M (fun t => t = q) (fun M' hX pc ls hd => by cases hX; exact w_vret C hr hd) _ hf rfl)
