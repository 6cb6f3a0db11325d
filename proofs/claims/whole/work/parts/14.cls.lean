def f_Pa_act (a0 : Nat) (a1 : Int32) (a2 : Int32) (M : SM) : Option Int32 := if a2 < 1 then (some 2) else ((f_Sp_at (jpf a0 1) a1 M).bind fun q2 => if q2 < a2 then (some 2) else ((f_Sp_cellOf (jpf a0 0) a1 (a2 - 1) M).bind fun q4 => some q4))
section
variable {p : Program} {l : Launch} {e : Env} {R : Room} {s : State} {m : MethodId} {args : Array Value} {below : List Frame} {meth : Method} {c : Code} {G : JG} {D : Nat} {Q : State → Prop}
set_option maxHeartbeats 4000000 in
set_option maxRecDepth 20000 in
theorem K_Pa_act (C : jCx p R s m args meth c G jb_Pa_act 3 D "SluicePit$Parts") (F : jF G = false) (hD : 2 ≤ D) (a0 : Nat) (a1 : Int32) (a2 : Int32) (hp0 : jkd a0 4) (M : SM) (X : Int32 → Prop) (hR : ∀ v, X v → ∀ (pc : Nat) (ls : List (Option Value)), decode jb_Pa_act pc = .ok (.ireturn, 1) → narrow FieldType.int (.int v) = .int v → Wk p l e R s m args below meth c G 3 Q 0 0 jN0 (jce G M) pc ls [.int v]) : J X (f_Pa_act a0 a1 a2 M) (Wk p l e R s m args below meth c G 3 Q 0 0 jN0 (jce G M) 0 [some (.ref a0), some (.int a1), some (.int a2)] []) := by
  unfold f_Pa_act
  refine J_mono (w_iload_n C (jd jdt_Pa_act 0 rfl) rfl) ?_
  refine J_mono (w_iconst_1 C (jd jdt_Pa_act 1 rfl)) ?_
  refine J_br (w_icmp_lt C (jd jdt_Pa_act 2 rfl) rfl) (fun h1 => J_pos h1 ?_) (fun h1 => J_neg h1 ?_)
  · refine J_mono (w_iconst_2 C (jd jdt_Pa_act 17 rfl)) ?_
    exact J_some (fun hx => hR 2 hx _ _ (jd jdt_Pa_act 18 rfl) rfl)
  · refine J_mono (w_iload_n C (jd jdt_Pa_act 3 rfl) rfl) ?_
    refine J_mono (w_aload_n C (jd jdt_Pa_act 4 rfl) rfl) ?_
    refine J_mono (jg_Pa_16 C hp0 (jd jdt_Pa_act 5 rfl)) ?_
    refine J_mono (w_iload_n C (jd jdt_Pa_act 6 rfl) rfl) ?_
    refine J_bind (fun q2 hq2 => ?_)
    refine J_mono (jc_Pa_20 C (C_Sp_at l G F (jpf a0 1) a1 (jkf_4_1 hp0) M hq2) rfl (Nat.le_trans (Nat.le_of_ble_eq_true rfl : 1 + 1 ≤ 2) hD) (jd jdt_Pa_act 7 rfl)) ?_
    refine J_br (w_icmp_gt C (jd jdt_Pa_act 8 rfl) rfl) (fun h3 => J_pos h3 ?_) (fun h3 => J_neg h3 ?_)
    · refine J_mono (w_iconst_2 C (jd jdt_Pa_act 17 rfl)) ?_
      exact J_some (fun hx => hR 2 hx _ _ (jd jdt_Pa_act 18 rfl) rfl)
    · refine J_mono (w_aload_n C (jd jdt_Pa_act 9 rfl) rfl) ?_
      refine J_mono (jg_Pa_11 C hp0 (jd jdt_Pa_act 10 rfl)) ?_
      refine J_mono (w_iload_n C (jd jdt_Pa_act 11 rfl) rfl) ?_
      refine J_mono (w_iload_n C (jd jdt_Pa_act 12 rfl) rfl) ?_
      refine J_mono (w_iconst_1 C (jd jdt_Pa_act 13 rfl)) ?_
      refine J_mono (w_isub C (jd jdt_Pa_act 14 rfl)) ?_
      refine J_bind (fun q4 hq4 => ?_)
      refine J_mono (jc_Pa_28 C (C_Sp_cellOf l G F (jpf a0 0) a1 (a2 - 1) (jkf_4_0 hp0) M hq4) rfl (Nat.le_trans (Nat.le_of_ble_eq_true rfl : 1 + 1 ≤ 2) hD) (jd jdt_Pa_act 15 rfl)) ?_
      refine J_mono (w_goto C (jd jdt_Pa_act 16 rfl) rfl) ?_
      exact J_some (fun hx => hR q4 hx _ _ (jd jdt_Pa_act 18 rfl) rfl)
end
theorem C_Pa_act (l : Launch) (G : JG) (F : jF G = false) (a0 : Nat) (a1 : Int32) (a2 : Int32) (hp0 : jkd a0 4) (M : SM) {q : Int32} (hf : f_Pa_act a0 a1 a2 M = some q) : jMet l jy_Pa_act jb_Pa_act 3 (some FieldType.int) 2 0 0 G [.ref a0, .int a1, .int a2] jN0 (jce G M) (some (.int q)) jN0 (jce G M) :=
  j_met jo_Pa_act (by decide) (Nat.le_of_ble_eq_true rfl) (fun p e s m args below meth c C hr hm => K_Pa_act C F (Nat.le_refl _) a0 a1 a2 hp0 M (fun t => t = q) (fun v hX pc ls hd hn => by cases hX; exact w_iret C hr hn hd) _ hf rfl)
def f_Po_act (a0 : Nat) (a1 : Nat) (a2 : Int32) (a3 : Int32) (M : SM) : Option Int32 := if (((M.1 a0 7) >>> (a2 &&& 31)) &&& 1) = 1 then (some 2) else ((if a2 = (M.1 a0 8) then (if (a3 - (M.1 a0 10)) < (M.1 a0 9) then (some (a3 - (M.1 a0 10))) else (some ((a3 - (M.1 a0 10)) + 1))) else (some (a3 - (M.1 a0 10))) : Option (Int32)).bind fun q2 => (f_Pa_act (jpf a1 13) a2 q2 M).bind fun q5 => some q5)
section
variable {p : Program} {l : Launch} {e : Env} {R : Room} {s : State} {m : MethodId} {args : Array Value} {below : List Frame} {meth : Method} {c : Code} {G : JG} {D : Nat} {Q : State → Prop}
set_option maxHeartbeats 4000000 in
set_option maxRecDepth 20000 in
theorem K_Po_act (C : jCx p R s m args meth c G jb_Po_act 5 D "SluicePit$Pool") (F : jF G = false) (hD : 3 ≤ D) (a0 : Nat) (a1 : Nat) (a2 : Int32) (a3 : Int32) (hp0 : jkd a0 5) (hp1 : jkd a1 1) (M : SM) (X : Int32 → Prop) (hR : ∀ v, X v → ∀ (pc : Nat) (ls : List (Option Value)), decode jb_Po_act pc = .ok (.ireturn, 1) → narrow FieldType.int (.int v) = .int v → Wk p l e R s m args below meth c G 5 Q 0 0 jN0 (jce G M) pc ls [.int v]) : J X (f_Po_act a0 a1 a2 a3 M) (Wk p l e R s m args below meth c G 5 Q 0 0 jN0 (jce G M) 0 [some (.ref a0), some (.ref a1), some (.int a2), some (.int a3), none] []) := by
  unfold f_Po_act
  refine J_mono (w_aload_n C (jd jdt_Po_act 0 rfl) rfl) ?_
  refine J_mono (jg_Po_21 C hp0 (jd jdt_Po_act 1 rfl)) ?_
  refine J_mono (w_iload_n C (jd jdt_Po_act 2 rfl) rfl) ?_
  refine J_mono (w_ishr C (jd jdt_Po_act 3 rfl)) ?_
  refine J_mono (w_iconst_1 C (jd jdt_Po_act 4 rfl)) ?_
  refine J_mono (w_iand C (jd jdt_Po_act 5 rfl)) ?_
  refine J_mono (w_iconst_1 C (jd jdt_Po_act 6 rfl)) ?_
  refine J_br (w_icmp_ne C (jd jdt_Po_act 7 rfl) rfl) (fun h1 => J_pos h1 ?_) (fun h1 => J_neg h1 ?_)
  · refine J_mono (w_iconst_2 C (jd jdt_Po_act 8 rfl)) ?_
    exact J_some (fun hx => hR 2 hx _ _ (jd jdt_Po_act 9 rfl) rfl)
  · refine J_mono (w_iload_n C (jd jdt_Po_act 10 rfl) rfl) ?_
    refine J_mono (w_aload_n C (jd jdt_Po_act 11 rfl) rfl) ?_
    refine J_mono (jg_Po_31 C hp0 (jd jdt_Po_act 12 rfl)) ?_
    refine J_mono (w_isub C (jd jdt_Po_act 13 rfl)) ?_
    refine J_mono (w_istore (ls' := [some (.ref a0), some (.ref a1), some (.int a2), some (.int a3), some (.int (a3 - (M.1 a0 10)))]) C (jd jdt_Po_act 14 rfl) (by decide) rfl rfl) ?_
    refine J_mono (w_iload_n C (jd jdt_Po_act 15 rfl) rfl) ?_
    refine J_mono (w_aload_n C (jd jdt_Po_act 16 rfl) rfl) ?_
    refine J_mono (jg_Po_25 C hp0 (jd jdt_Po_act 17 rfl)) ?_
    refine J_seq (fun (q2 : Int32) => Wk p l e R s m args below meth c G 5 Q 0 0 jN0 (jce G M) 42 [none, some (.ref a1), some (.int a2), none, some (.int q2)] []) ?_ (fun q2 hq2 => ?_)
    · refine J_br (w_icmp_ne C (jd jdt_Po_act 18 rfl) rfl) (fun h3 => J_pos h3 ?_) (fun h3 => J_neg h3 ?_)
      · refine J_mono (w_iload C (jd jdt_Po_act 19 rfl) rfl) ?_
        refine J_mono (w_aload_n C (jd jdt_Po_act 20 rfl) rfl) ?_
        refine J_mono (jg_Po_28 C hp0 (jd jdt_Po_act 21 rfl)) ?_
        refine J_br (w_icmp_lt C (jd jdt_Po_act 22 rfl) rfl) (fun h4 => J_pos h4 ?_) (fun h4 => J_neg h4 ?_)
        · exact J_some (fun hx => Wk_sb hx ⟨rfl, rfl, rfl, trivial⟩)
        · refine J_mono (w_iinc (v := (a3 - (M.1 a0 10)) + 1) (ls' := [some (.ref a0), some (.ref a1), some (.int a2), some (.int a3), some (.int ((a3 - (M.1 a0 10)) + 1))]) C (jd jdt_Po_act 23 rfl) rfl rfl (by decide) rfl rfl) ?_
          exact J_some (fun hx => Wk_sb hx ⟨rfl, rfl, rfl, trivial⟩)
      · exact J_some (fun hx => Wk_sb hx ⟨rfl, rfl, rfl, trivial⟩)
    · refine J_mono (w_aload_n C (jd jdt_Po_act 24 rfl) rfl) ?_
      refine J_mono (jg_Po_108 C hp1 (jd jdt_Po_act 25 rfl)) ?_
      refine J_mono (w_iload_n C (jd jdt_Po_act 26 rfl) rfl) ?_
      refine J_mono (w_iload C (jd jdt_Po_act 27 rfl) rfl) ?_
      refine J_bind (fun q5 hq5 => ?_)
      refine J_mono (jc_Po_112 C (jkf_1_13 hp1) (C_Pa_act l G F (jpf a1 13) a2 q2 (jkf_1_13 hp1) M hq5) rfl (Nat.le_trans (Nat.le_of_ble_eq_true rfl : 2 + 1 ≤ 3) hD) (jd jdt_Po_act 28 rfl)) ?_
      exact J_some (fun hx => hR q5 hx _ _ (jd jdt_Po_act 29 rfl) rfl)
end
theorem C_Po_act (l : Launch) (G : JG) (F : jF G = false) (a0 : Nat) (a1 : Nat) (a2 : Int32) (a3 : Int32) (hp0 : jkd a0 5) (hp1 : jkd a1 1) (M : SM) {q : Int32} (hf : f_Po_act a0 a1 a2 a3 M = some q) : jMet l jy_Po_act jb_Po_act 5 (some FieldType.int) 3 0 0 G [.ref a0, .ref a1, .int a2, .int a3] jN0 (jce G M) (some (.int q)) jN0 (jce G M) :=
  j_met jo_Po_act (by decide) (Nat.le_of_ble_eq_true rfl) (fun p e s m args below meth c C hr hm => K_Po_act C F (Nat.le_refl _) a0 a1 a2 a3 hp0 hp1 M (fun t => t = q) (fun v hX pc ls hd hn => by cases hX; exact w_iret C hr hn hd) _ hf rfl)
def lp_Po_bow_10 (y0 : Nat) (y1 : Nat) (y2 : Int32) : Nat → Int32 → Int32 → SM → Option (Int32 × SM)
  | 0, _, _, _ => none
  | n + 1, x3, x4, M => if x4 < (M.1 y1 4) then ((f_Po_act y0 y1 x4 y2 M).bind fun q2 => (if q2 = 0 then ((f_Sp_at (jpf y1 8) x4 M).bind fun q5 => some (x3 + q5, M)) else (if q2 = 3 then (some (x3, sI M y0 6 1)) else (some (x3, M))) : Option (Int32 × SM)).bind fun q3 => lp_Po_bow_10 y0 y1 y2 n q3.1 (x4 + 1) q3.2) else (some (x3, M))
def f_Po_bow (a0 : Nat) (a1 : Nat) (a2 : Int32) (M : SM) : Option SM := (lp_Po_bow_10 a0 a1 a2 jfuel 0 0 (sI M a0 6 0)).bind fun q7 => (f_Sp_at (jpf a0 0) ((sI q7.2 a0 2 ((q7.2.1 a0 2) + q7.1)).1 a1 2) (sI q7.2 a0 2 ((q7.2.1 a0 2) + q7.1))).bind fun q8 => (f_Sp_put (jpf a0 0) ((sI q7.2 a0 2 ((q7.2.1 a0 2) + q7.1)).1 a1 2) (q8 + q7.1) (sI q7.2 a0 2 ((q7.2.1 a0 2) + q7.1))).bind fun q9 => some q9
section
variable {p : Program} {l : Launch} {e : Env} {R : Room} {s : State} {m : MethodId} {args : Array Value} {below : List Frame} {meth : Method} {c : Code} {G : JG} {D : Nat} {Q : State → Prop}
set_option maxHeartbeats 4000000 in
set_option maxRecDepth 20000 in
theorem K_Po_bow (C : jCx p R s m args meth c G jb_Po_bow 6 D "SluicePit$Pool") (F : jF G = false) (hD : 4 ≤ D) (a0 : Nat) (a1 : Nat) (a2 : Int32) (hp0 : jkd a0 5) (hp1 : jkd a1 1) (M : SM) (X : SM → Prop) (hR : ∀ M', X M' → ∀ (pc : Nat) (ls : List (Option Value)), decode jb_Po_bow pc = .ok (.return_, 1) → Wk p l e R s m args below meth c G 6 Q 0 0 jN0 (jce G M') pc ls []) : J X (f_Po_bow a0 a1 a2 M) (Wk p l e R s m args below meth c G 6 Q 0 0 jN0 (jce G M) 0 [some (.ref a0), some (.ref a1), some (.int a2), none, none, none] []) := by
  unfold f_Po_bow
  refine J_mono (w_iconst_0 C (jd jdt_Po_bow 0 rfl)) ?_
  refine J_mono (w_istore_n (ls' := [some (.ref a0), some (.ref a1), some (.int a2), some (.int 0), none, none]) C (jd jdt_Po_bow 1 rfl) (by decide) rfl rfl) ?_
  refine J_mono (w_aload_n C (jd jdt_Po_bow 2 rfl) rfl) ?_
  refine J_mono (w_iconst_0 C (jd jdt_Po_bow 3 rfl)) ?_
  refine J_mono (jp_Po_72 C F hp0 (Or.inl rfl) (jd jdt_Po_bow 4 rfl)) ?_
  refine J_mono (w_iconst_0 C (jd jdt_Po_bow 5 rfl)) ?_
  refine J_mono (w_istore (ls' := [some (.ref a0), some (.ref a1), some (.int a2), some (.int 0), some (.int 0), none]) C (jd jdt_Po_bow 6 rfl) (by decide) rfl rfl) ?_
  have L10 : ∀ (y0 : Nat) (y1 : Nat) (y2 : Int32) (hy0 : jkd y0 5) (hy1 : jkd y1 1) (n : Nat) (x3 : Int32) (x4 : Int32) (M : SM), J (fun (q7 : Int32 × SM) => Wk p l e R s m args below meth c G 6 Q 0 0 jN0 (jce G q7.2) 66 [some (.ref y0), some (.ref y1), none, some (.int q7.1), none, none] []) (lp_Po_bow_10 y0 y1 y2 n x3 x4 M) (Wk p l e R s m args below meth c G 6 Q 0 0 jN0 (jce G M) 10 [some (.ref y0), some (.ref y1), some (.int y2), some (.int x3), some (.int x4), none] []) := by
    intro y0 y1 y2 hy0 hy1 n
    induction n with
    | zero => intro x3 x4 M; exact J_none
    | succ n ih =>
      intro x3 x4 M
      unfold lp_Po_bow_10
      refine J_mono (w_iload C (jd jdt_Po_bow 7 rfl) rfl) ?_
      refine J_mono (w_aload_n C (jd jdt_Po_bow 8 rfl) rfl) ?_
      refine J_mono (jg_Po_117 C hy1 (jd jdt_Po_bow 9 rfl)) ?_
      refine J_br (w_icmp_ge C (jd jdt_Po_bow 10 rfl) rfl) (fun h1 => J_pos h1 ?_) (fun h1 => J_neg h1 ?_)
      · refine J_mono (w_aload_n C (jd jdt_Po_bow 11 rfl) rfl) ?_
        refine J_mono (w_aload_n C (jd jdt_Po_bow 12 rfl) rfl) ?_
        refine J_mono (w_iload C (jd jdt_Po_bow 13 rfl) rfl) ?_
        refine J_mono (w_iload_n C (jd jdt_Po_bow 14 rfl) rfl) ?_
        refine J_bind (fun q2 hq2 => ?_)
        refine J_mono (jc_Po_120 C hy0 (C_Po_act l G F y0 y1 x4 y2 hy0 hy1 M hq2) rfl (Nat.le_trans (Nat.le_of_ble_eq_true rfl : 3 + 1 ≤ 4) hD) (jd jdt_Po_bow 15 rfl)) ?_
        refine J_mono (w_istore (ls' := [some (.ref y0), some (.ref y1), some (.int y2), some (.int x3), some (.int x4), some (.int q2)]) C (jd jdt_Po_bow 16 rfl) (by decide) rfl rfl) ?_
        refine J_mono (w_iload C (jd jdt_Po_bow 17 rfl) rfl) ?_
        refine J_seq (fun (q3 : Int32 × SM) => Wk p l e R s m args below meth c G 6 Q 0 0 jN0 (jce G q3.2) 60 [some (.ref y0), some (.ref y1), some (.int y2), some (.int q3.1), some (.int x4), none] []) ?_ (fun q3 hq3 => ?_)
        · refine J_br (w_if_ne (y := 0) C (jd jdt_Po_bow 18 rfl) rfl) (fun h4 => J_pos h4 ?_) (fun h4 => J_neg h4 ?_)
          · refine J_mono (w_iload_n C (jd jdt_Po_bow 19 rfl) rfl) ?_
            refine J_mono (w_aload_n C (jd jdt_Po_bow 20 rfl) rfl) ?_
            refine J_mono (jg_Po_123 C hy1 (jd jdt_Po_bow 21 rfl)) ?_
            refine J_mono (w_iload C (jd jdt_Po_bow 22 rfl) rfl) ?_
            refine J_bind (fun q5 hq5 => ?_)
            refine J_mono (jc_Po_40 C (C_Sp_at l G F (jpf y1 8) x4 (jkf_1_8 hy1) M hq5) rfl (Nat.le_trans (Nat.le_of_ble_eq_true rfl : 1 + 1 ≤ 4) hD) (jd jdt_Po_bow 23 rfl)) ?_
            refine J_mono (w_iadd C (jd jdt_Po_bow 24 rfl)) ?_
            refine J_mono (w_istore_n (ls' := [some (.ref y0), some (.ref y1), some (.int y2), some (.int (x3 + q5)), some (.int x4), some (.int q2)]) C (jd jdt_Po_bow 25 rfl) (by decide) rfl rfl) ?_
            refine J_mono (w_goto C (jd jdt_Po_bow 26 rfl) rfl) ?_
            exact J_some (fun hx => Wk_sb hx ⟨rfl, rfl, rfl, rfl, rfl, trivial⟩)
          · refine J_mono (w_iload C (jd jdt_Po_bow 27 rfl) rfl) ?_
            refine J_mono (w_iconst_3 C (jd jdt_Po_bow 28 rfl)) ?_
            refine J_br (w_icmp_ne C (jd jdt_Po_bow 29 rfl) rfl) (fun h6 => J_pos h6 ?_) (fun h6 => J_neg h6 ?_)
            · refine J_mono (w_aload_n C (jd jdt_Po_bow 30 rfl) rfl) ?_
              refine J_mono (w_iconst_1 C (jd jdt_Po_bow 31 rfl)) ?_
              refine J_mono (jp_Po_72 C F hy0 (Or.inr rfl) (jd jdt_Po_bow 32 rfl)) ?_
              exact J_some (fun hx => Wk_sb hx ⟨rfl, rfl, rfl, rfl, rfl, trivial⟩)
            · exact J_some (fun hx => Wk_sb hx ⟨rfl, rfl, rfl, rfl, rfl, trivial⟩)
        · refine J_mono (w_iinc (v := x4 + 1) (ls' := [some (.ref y0), some (.ref y1), some (.int y2), some (.int q3.1), some (.int (x4 + 1)), none]) C (jd jdt_Po_bow 33 rfl) rfl rfl (by decide) rfl rfl) ?_
          refine J_mono (w_goto C (jd jdt_Po_bow 34 rfl) rfl) ?_
          exact J_sub (ih q3.1 (x4 + 1) q3.2) ⟨rfl, rfl, rfl, rfl, rfl, trivial⟩
      · exact J_some (fun hx => Wk_sb hx ⟨rfl, rfl, rfl, trivial⟩)
  refine J_seq (fun (q7 : Int32 × SM) => Wk p l e R s m args below meth c G 6 Q 0 0 jN0 (jce G q7.2) 66 [some (.ref a0), some (.ref a1), none, some (.int q7.1), none, none] []) (J_sub (L10 a0 a1 a2 hp0 hp1 jfuel 0 0 (sI M a0 6 0)) ⟨rfl, rfl, rfl, rfl, rfl, trivial⟩) (fun q7 hq7 => ?_)
  refine J_mono (w_aload_n C (jd jdt_Po_bow 35 rfl) rfl) ?_
  refine J_mono (w_dup_r C (jd jdt_Po_bow 36 rfl)) ?_
  refine J_mono (jg_Po_60 C hp0 (jd jdt_Po_bow 37 rfl)) ?_
  refine J_mono (w_iload_n C (jd jdt_Po_bow 38 rfl) rfl) ?_
  refine J_mono (w_iadd C (jd jdt_Po_bow 39 rfl)) ?_
  refine J_mono (jp_Po_60 C F hp0 (jd jdt_Po_bow 40 rfl)) ?_
  refine J_mono (w_aload_n C (jd jdt_Po_bow 41 rfl) rfl) ?_
  refine J_mono (jg_Po_9 C hp0 (jd jdt_Po_bow 42 rfl)) ?_
  refine J_mono (w_aload_n C (jd jdt_Po_bow 43 rfl) rfl) ?_
  refine J_mono (jg_Po_126 C hp1 (jd jdt_Po_bow 44 rfl)) ?_
  refine J_mono (w_aload_n C (jd jdt_Po_bow 45 rfl) rfl) ?_
  refine J_mono (jg_Po_9 C hp0 (jd jdt_Po_bow 46 rfl)) ?_
  refine J_mono (w_aload_n C (jd jdt_Po_bow 47 rfl) rfl) ?_
  refine J_mono (jg_Po_126 C hp1 (jd jdt_Po_bow 48 rfl)) ?_
  refine J_bind (fun q8 hq8 => ?_)
  refine J_mono (jc_Po_40 C (C_Sp_at l G F (jpf a0 0) ((sI q7.2 a0 2 ((q7.2.1 a0 2) + q7.1)).1 a1 2) (jkf_5_0 hp0) (sI q7.2 a0 2 ((q7.2.1 a0 2) + q7.1)) hq8) rfl (Nat.le_trans (Nat.le_of_ble_eq_true rfl : 1 + 1 ≤ 4) hD) (jd jdt_Po_bow 49 rfl)) ?_
  refine J_mono (w_iload_n C (jd jdt_Po_bow 50 rfl) rfl) ?_
  refine J_mono (w_iadd C (jd jdt_Po_bow 51 rfl)) ?_
  refine J_bind (fun q9 hq9 => ?_)
  refine J_mono (jc_Po_44 C (C_Sp_put l G F (jpf a0 0) ((sI q7.2 a0 2 ((q7.2.1 a0 2) + q7.1)).1 a1 2) (q8 + q7.1) (jkf_5_0 hp0) (sI q7.2 a0 2 ((q7.2.1 a0 2) + q7.1)) hq9) rfl (Nat.le_trans (Nat.le_of_ble_eq_true rfl : 1 + 1 ≤ 4) hD) (jd jdt_Po_bow 52 rfl)) ?_
  exact J_some (fun hx => hR q9 hx _ _ (jd jdt_Po_bow 53 rfl))
end
theorem C_Po_bow (l : Launch) (G : JG) (F : jF G = false) (a0 : Nat) (a1 : Nat) (a2 : Int32) (hp0 : jkd a0 5) (hp1 : jkd a1 1) (M : SM) {q : SM} (hf : f_Po_bow a0 a1 a2 M = some q) : jMet l jy_Po_bow jb_Po_bow 6 none 4 0 0 G [.ref a0, .ref a1, .int a2] jN0 (jce G M) none jN0 (jce G q) :=
  j_met jo_Po_bow (by decide) (Nat.le_of_ble_eq_true rfl) (fun p e s m args below meth c C hr hm => K_Po_bow C F (Nat.le_refl _) a0 a1 a2 hp0 hp1 M (fun t => t = q) (fun M' hX pc ls hd => by cases hX; exact w_vret C hr hd) _ hf rfl)
def f_Po_isShut (a0 : Nat) (a1 : Nat) (a2 : Int32) (M : SM) : Option Int32 := if (M.1 a0 6) = 0 then (some 0) else ((f_Sp_at (jpf a1 7) a2 M).bind fun q2 => if q2 = 1 then (some 1) else (some 0))
section
variable {p : Program} {l : Launch} {e : Env} {R : Room} {s : State} {m : MethodId} {args : Array Value} {below : List Frame} {meth : Method} {c : Code} {G : JG} {D : Nat} {Q : State → Prop}
set_option maxHeartbeats 4000000 in
set_option maxRecDepth 20000 in
theorem K_Po_isShut (C : jCx p R s m args meth c G jb_Po_isShut 3 D "SluicePit$Pool") (F : jF G = false) (hD : 2 ≤ D) (a0 : Nat) (a1 : Nat) (a2 : Int32) (hp0 : jkd a0 5) (hp1 : jkd a1 1) (M : SM) (X : Int32 → Prop) (hR : ∀ v, X v → ∀ (pc : Nat) (ls : List (Option Value)), decode jb_Po_isShut pc = .ok (.ireturn, 1) → narrow FieldType.boolean (.int v) = .int v → Wk p l e R s m args below meth c G 3 Q 0 0 jN0 (jce G M) pc ls [.int v]) : J X (f_Po_isShut a0 a1 a2 M) (Wk p l e R s m args below meth c G 3 Q 0 0 jN0 (jce G M) 0 [some (.ref a0), some (.ref a1), some (.int a2)] []) := by
  unfold f_Po_isShut
  refine J_mono (w_aload_n C (jd jdt_Po_isShut 0 rfl) rfl) ?_
  refine J_mono (jg_Po_72 C hp0 (jd jdt_Po_isShut 1 rfl)) ?_
  refine J_br (w_if_eq (y := 0) C (jd jdt_Po_isShut 2 rfl) rfl) (fun h1 => J_pos h1 ?_) (fun h1 => J_neg h1 ?_)
  · refine J_mono (w_iconst_0 C (jd jdt_Po_isShut 11 rfl)) ?_
    exact J_some (fun hx => hR 0 hx _ _ (jd jdt_Po_isShut 12 rfl) rfl)
  · refine J_mono (w_aload_n C (jd jdt_Po_isShut 3 rfl) rfl) ?_
    refine J_mono (jg_Po_129 C hp1 (jd jdt_Po_isShut 4 rfl)) ?_
    refine J_mono (w_iload_n C (jd jdt_Po_isShut 5 rfl) rfl) ?_
    refine J_bind (fun q2 hq2 => ?_)
    refine J_mono (jc_Po_40 C (C_Sp_at l G F (jpf a1 7) a2 (jkf_1_7 hp1) M hq2) rfl (Nat.le_trans (Nat.le_of_ble_eq_true rfl : 1 + 1 ≤ 2) hD) (jd jdt_Po_isShut 6 rfl)) ?_
    refine J_mono (w_iconst_1 C (jd jdt_Po_isShut 7 rfl)) ?_
    refine J_br (w_icmp_ne C (jd jdt_Po_isShut 8 rfl) rfl) (fun h3 => J_pos h3 ?_) (fun h3 => J_neg h3 ?_)
    · refine J_mono (w_iconst_1 C (jd jdt_Po_isShut 9 rfl)) ?_
      refine J_mono (w_goto C (jd jdt_Po_isShut 10 rfl) rfl) ?_
      exact J_some (fun hx => hR 1 hx _ _ (jd jdt_Po_isShut 12 rfl) rfl)
    · refine J_mono (w_iconst_0 C (jd jdt_Po_isShut 11 rfl)) ?_
      exact J_some (fun hx => hR 0 hx _ _ (jd jdt_Po_isShut 12 rfl) rfl)
end
theorem C_Po_isShut (l : Launch) (G : JG) (F : jF G = false) (a0 : Nat) (a1 : Nat) (a2 : Int32) (hp0 : jkd a0 5) (hp1 : jkd a1 1) (M : SM) {q : Int32} (hf : f_Po_isShut a0 a1 a2 M = some q) : jMet l jy_Po_isShut jb_Po_isShut 3 (some FieldType.boolean) 2 0 0 G [.ref a0, .ref a1, .int a2] jN0 (jce G M) (some (.int q)) jN0 (jce G M) :=
  j_met jo_Po_isShut (by decide) (Nat.le_of_ble_eq_true rfl) (fun p e s m args below meth c C hr hm => K_Po_isShut C F (Nat.le_refl _) a0 a1 a2 hp0 hp1 M (fun t => t = q) (fun v hX pc ls hd hn => by cases hX; exact w_iret C hr hn hd) _ hf rfl)
def lp_Po_flow_2 (y0 : Nat) (y1 : Nat) : Nat → Int32 → SM → Option (SM)
  | 0, _, _ => none
  | n + 1, x2, M => if x2 < ((M.1 y1 1) - 1) then ((f_Sp_at (jpf y0 0) x2 M).bind fun q2 => (f_Sp_at (jpf y0 0) (x2 + 1) M).bind fun q3 => (f_Sp_at (jpf y1 5) x2 M).bind fun q4 => (f_Sp_at (jpf y1 5) (x2 + 1) M).bind fun q5 => (if 0 < (((q4 + q2) - q5) - q3) then ((f_Po_isShut y0 y1 x2 M).bind fun q8 => if q8 = 0 then ((f_Sp_put (jpf y0 0) x2 (q2 - (jmin ((((q4 + q2) - q5) - q3) / 2) q2)) M).bind fun q10 => (f_Sp_put (jpf y0 0) (x2 + 1) (q3 + (jmin ((((q4 + q2) - q5) - q3) / 2) q2)) q10).bind fun q11 => some q11) else (some M)) else (some M) : Option (SM)).bind fun q6 => lp_Po_flow_2 y0 y1 n (x2 + 1) q6) else (some M)
def f_Po_flow (a0 : Nat) (a1 : Nat) (M : SM) : Option SM := (lp_Po_flow_2 a0 a1 jfuel 0 M).bind fun q12 => some q12
section
variable {p : Program} {l : Launch} {e : Env} {R : Room} {s : State} {m : MethodId} {args : Array Value} {below : List Frame} {meth : Method} {c : Code} {G : JG} {D : Nat} {Q : State → Prop}
set_option maxHeartbeats 4000000 in
set_option maxRecDepth 20000 in
theorem K_Po_flow (C : jCx p R s m args meth c G jb_Po_flow 7 D "SluicePit$Pool") (F : jF G = false) (hD : 7 ≤ D) (a0 : Nat) (a1 : Nat) (hp0 : jkd a0 5) (hp1 : jkd a1 1) (M : SM) (X : SM → Prop) (hR : ∀ M', X M' → ∀ (pc : Nat) (ls : List (Option Value)), decode jb_Po_flow pc = .ok (.return_, 1) → Wk p l e R s m args below meth c G 7 Q 0 0 jN0 (jce G M') pc ls []) : J X (f_Po_flow a0 a1 M) (Wk p l e R s m args below meth c G 7 Q 0 0 jN0 (jce G M) 0 [some (.ref a0), some (.ref a1), none, none, none, none, none] []) := by
  unfold f_Po_flow
  refine J_mono (w_iconst_0 C (jd jdt_Po_flow 0 rfl)) ?_
  refine J_mono (w_istore_n (ls' := [some (.ref a0), some (.ref a1), some (.int 0), none, none, none, none]) C (jd jdt_Po_flow 1 rfl) (by decide) rfl rfl) ?_
  have L2 : ∀ (y0 : Nat) (y1 : Nat) (hy0 : jkd y0 5) (hy1 : jkd y1 1) (n : Nat) (x2 : Int32) (M : SM), J (fun (q12 : SM) => Wk p l e R s m args below meth c G 7 Q 0 0 jN0 (jce G q12) 116 [none, none, none, none, none, none, none] []) (lp_Po_flow_2 y0 y1 n x2 M) (Wk p l e R s m args below meth c G 7 Q 0 0 jN0 (jce G M) 2 [some (.ref y0), some (.ref y1), some (.int x2), none, none, none, none] []) := by
    intro y0 y1 hy0 hy1 n
    induction n with
    | zero => intro x2 M; exact J_none
    | succ n ih =>
      intro x2 M
      unfold lp_Po_flow_2
      refine J_mono (w_iload_n C (jd jdt_Po_flow 2 rfl) rfl) ?_
      refine J_mono (w_aload_n C (jd jdt_Po_flow 3 rfl) rfl) ?_
      refine J_mono (jg_Po_34 C hy1 (jd jdt_Po_flow 4 rfl)) ?_
      refine J_mono (w_iconst_1 C (jd jdt_Po_flow 5 rfl)) ?_
      refine J_mono (w_isub C (jd jdt_Po_flow 6 rfl)) ?_
      refine J_br (w_icmp_ge C (jd jdt_Po_flow 7 rfl) rfl) (fun h1 => J_pos h1 ?_) (fun h1 => J_neg h1 ?_)
      · refine J_mono (w_aload_n C (jd jdt_Po_flow 8 rfl) rfl) ?_
        refine J_mono (jg_Po_9 C hy0 (jd jdt_Po_flow 9 rfl)) ?_
        refine J_mono (w_iload_n C (jd jdt_Po_flow 10 rfl) rfl) ?_
        refine J_bind (fun q2 hq2 => ?_)
        refine J_mono (jc_Po_40 C (C_Sp_at l G F (jpf y0 0) x2 (jkf_5_0 hy0) M hq2) rfl (Nat.le_trans (Nat.le_of_ble_eq_true rfl : 1 + 1 ≤ 7) hD) (jd jdt_Po_flow 11 rfl)) ?_
        refine J_mono (w_istore_n (ls' := [some (.ref y0), some (.ref y1), some (.int x2), some (.int q2), none, none, none]) C (jd jdt_Po_flow 12 rfl) (by decide) rfl rfl) ?_
        refine J_mono (w_aload_n C (jd jdt_Po_flow 13 rfl) rfl) ?_
        refine J_mono (jg_Po_9 C hy0 (jd jdt_Po_flow 14 rfl)) ?_
        refine J_mono (w_iload_n C (jd jdt_Po_flow 15 rfl) rfl) ?_
        refine J_mono (w_iconst_1 C (jd jdt_Po_flow 16 rfl)) ?_
        refine J_mono (w_iadd C (jd jdt_Po_flow 17 rfl)) ?_
        refine J_bind (fun q3 hq3 => ?_)
        refine J_mono (jc_Po_40 C (C_Sp_at l G F (jpf y0 0) (x2 + 1) (jkf_5_0 hy0) M hq3) rfl (Nat.le_trans (Nat.le_of_ble_eq_true rfl : 1 + 1 ≤ 7) hD) (jd jdt_Po_flow 18 rfl)) ?_
        refine J_mono (w_istore (ls' := [some (.ref y0), some (.ref y1), some (.int x2), some (.int q2), some (.int q3), none, none]) C (jd jdt_Po_flow 19 rfl) (by decide) rfl rfl) ?_
        refine J_mono (w_aload_n C (jd jdt_Po_flow 20 rfl) rfl) ?_
        refine J_mono (jg_Po_132 C hy1 (jd jdt_Po_flow 21 rfl)) ?_
        refine J_mono (w_iload_n C (jd jdt_Po_flow 22 rfl) rfl) ?_
        refine J_bind (fun q4 hq4 => ?_)
        refine J_mono (jc_Po_40 C (C_Sp_at l G F (jpf y1 5) x2 (jkf_1_5 hy1) M hq4) rfl (Nat.le_trans (Nat.le_of_ble_eq_true rfl : 1 + 1 ≤ 7) hD) (jd jdt_Po_flow 23 rfl)) ?_
        refine J_mono (w_iload_n C (jd jdt_Po_flow 24 rfl) rfl) ?_
        refine J_mono (w_iadd C (jd jdt_Po_flow 25 rfl)) ?_
        refine J_mono (w_aload_n C (jd jdt_Po_flow 26 rfl) rfl) ?_
        refine J_mono (jg_Po_132 C hy1 (jd jdt_Po_flow 27 rfl)) ?_
        refine J_mono (w_iload_n C (jd jdt_Po_flow 28 rfl) rfl) ?_
        refine J_mono (w_iconst_1 C (jd jdt_Po_flow 29 rfl)) ?_
        refine J_mono (w_iadd C (jd jdt_Po_flow 30 rfl)) ?_
        refine J_bind (fun q5 hq5 => ?_)
        refine J_mono (jc_Po_40 C (C_Sp_at l G F (jpf y1 5) (x2 + 1) (jkf_1_5 hy1) M hq5) rfl (Nat.le_trans (Nat.le_of_ble_eq_true rfl : 1 + 1 ≤ 7) hD) (jd jdt_Po_flow 31 rfl)) ?_
        refine J_mono (w_isub C (jd jdt_Po_flow 32 rfl)) ?_
        refine J_mono (w_iload C (jd jdt_Po_flow 33 rfl) rfl) ?_
        refine J_mono (w_isub C (jd jdt_Po_flow 34 rfl)) ?_
        refine J_mono (w_istore (ls' := [some (.ref y0), some (.ref y1), some (.int x2), some (.int q2), some (.int q3), some (.int (((q4 + q2) - q5) - q3)), none]) C (jd jdt_Po_flow 35 rfl) (by decide) rfl rfl) ?_
        refine J_mono (w_iload C (jd jdt_Po_flow 36 rfl) rfl) ?_
        refine J_seq (fun (q6 : SM) => Wk p l e R s m args below meth c G 7 Q 0 0 jN0 (jce G q6) 110 [some (.ref y0), some (.ref y1), some (.int x2), none, none, none, none] []) ?_ (fun q6 hq6 => ?_)
        · refine J_br (w_if_le (y := 0) C (jd jdt_Po_flow 37 rfl) rfl) (fun h7 => J_pos h7 ?_) (fun h7 => J_neg h7 ?_)
          · refine J_mono (w_aload_n C (jd jdt_Po_flow 38 rfl) rfl) ?_
            refine J_mono (w_aload_n C (jd jdt_Po_flow 39 rfl) rfl) ?_
            refine J_mono (w_iload_n C (jd jdt_Po_flow 40 rfl) rfl) ?_
            refine J_bind (fun q8 hq8 => ?_)
            refine J_mono (jc_Po_135 C hy0 (C_Po_isShut l G F y0 y1 x2 hy0 hy1 M hq8) rfl (Nat.le_trans (Nat.le_of_ble_eq_true rfl : 2 + 1 ≤ 7) hD) (jd jdt_Po_flow 41 rfl)) ?_
            refine J_br (w_if_ne (y := 0) C (jd jdt_Po_flow 42 rfl) rfl) (fun h9 => J_pos h9 ?_) (fun h9 => J_neg h9 ?_)
            · refine J_mono (w_iload C (jd jdt_Po_flow 43 rfl) rfl) ?_
              refine J_mono (w_iconst_2 C (jd jdt_Po_flow 44 rfl)) ?_
              refine J_mono (w_idiv C (jd jdt_Po_flow 45 rfl) (by decide)) ?_
              refine J_mono (w_iload_n C (jd jdt_Po_flow 46 rfl) rfl) ?_
              refine J_mono (w_mmin C (Nat.zero_le _) (Nat.zero_le _) (Nat.le_of_ble_eq_true rfl) jw_760 (jd jdt_Po_flow 47 rfl)) ?_
              refine J_mono (w_istore (ls' := [some (.ref y0), some (.ref y1), some (.int x2), some (.int q2), some (.int q3), some (.int (((q4 + q2) - q5) - q3)), some (.int (jmin ((((q4 + q2) - q5) - q3) / 2) q2))]) C (jd jdt_Po_flow 48 rfl) (by decide) rfl rfl) ?_
              refine J_mono (w_aload_n C (jd jdt_Po_flow 49 rfl) rfl) ?_
              refine J_mono (jg_Po_9 C hy0 (jd jdt_Po_flow 50 rfl)) ?_
              refine J_mono (w_iload_n C (jd jdt_Po_flow 51 rfl) rfl) ?_
              refine J_mono (w_iload_n C (jd jdt_Po_flow 52 rfl) rfl) ?_
              refine J_mono (w_iload C (jd jdt_Po_flow 53 rfl) rfl) ?_
              refine J_mono (w_isub C (jd jdt_Po_flow 54 rfl)) ?_
              refine J_bind (fun q10 hq10 => ?_)
              refine J_mono (jc_Po_44 C (C_Sp_put l G F (jpf y0 0) x2 (q2 - (jmin ((((q4 + q2) - q5) - q3) / 2) q2)) (jkf_5_0 hy0) M hq10) rfl (Nat.le_trans (Nat.le_of_ble_eq_true rfl : 1 + 1 ≤ 7) hD) (jd jdt_Po_flow 55 rfl)) ?_
              refine J_mono (w_aload_n C (jd jdt_Po_flow 56 rfl) rfl) ?_
              refine J_mono (jg_Po_9 C hy0 (jd jdt_Po_flow 57 rfl)) ?_
              refine J_mono (w_iload_n C (jd jdt_Po_flow 58 rfl) rfl) ?_
              refine J_mono (w_iconst_1 C (jd jdt_Po_flow 59 rfl)) ?_
              refine J_mono (w_iadd C (jd jdt_Po_flow 60 rfl)) ?_
              refine J_mono (w_iload C (jd jdt_Po_flow 61 rfl) rfl) ?_
              refine J_mono (w_iload C (jd jdt_Po_flow 62 rfl) rfl) ?_
              refine J_mono (w_iadd C (jd jdt_Po_flow 63 rfl)) ?_
              refine J_bind (fun q11 hq11 => ?_)
              refine J_mono (jc_Po_44 C (C_Sp_put l G F (jpf y0 0) (x2 + 1) (q3 + (jmin ((((q4 + q2) - q5) - q3) / 2) q2)) (jkf_5_0 hy0) q10 hq11) rfl (Nat.le_trans (Nat.le_of_ble_eq_true rfl : 1 + 1 ≤ 7) hD) (jd jdt_Po_flow 64 rfl)) ?_
              exact J_some (fun hx => Wk_sb hx ⟨rfl, rfl, rfl, trivial⟩)
            · exact J_some (fun hx => Wk_sb hx ⟨rfl, rfl, rfl, trivial⟩)
          · exact J_some (fun hx => Wk_sb hx ⟨rfl, rfl, rfl, trivial⟩)
        · refine J_mono (w_iinc (v := x2 + 1) (ls' := [some (.ref y0), some (.ref y1), some (.int (x2 + 1)), none, none, none, none]) C (jd jdt_Po_flow 65 rfl) rfl rfl (by decide) rfl rfl) ?_
          refine J_mono (w_goto C (jd jdt_Po_flow 66 rfl) rfl) ?_
          exact J_sub (ih (x2 + 1) q6) ⟨rfl, rfl, rfl, trivial⟩
      · exact J_some (fun hx => Wk_sb hx trivial)
  refine J_seq (fun (q12 : SM) => Wk p l e R s m args below meth c G 7 Q 0 0 jN0 (jce G q12) 116 [none, none, none, none, none, none, none] []) (J_sub (L2 a0 a1 hp0 hp1 jfuel 0 M) ⟨rfl, rfl, rfl, trivial⟩) (fun q12 hq12 => ?_)
  exact J_some (fun hx => hR q12 hx _ _ (jd jdt_Po_flow 67 rfl))
end
theorem C_Po_flow (l : Launch) (G : JG) (F : jF G = false) (a0 : Nat) (a1 : Nat) (hp0 : jkd a0 5) (hp1 : jkd a1 1) (M : SM) {q : SM} (hf : f_Po_flow a0 a1 M = some q) : jMet l jy_Po_flow jb_Po_flow 7 none 7 0 0 G [.ref a0, .ref a1] jN0 (jce G M) none jN0 (jce G q) :=
  j_met jo_Po_flow (by decide) (Nat.le_of_ble_eq_true rfl) (fun p e s m args below meth c C hr hm => K_Po_flow C F (Nat.le_refl _) a0 a1 hp0 hp1 M (fun t => t = q) (fun M' hX pc ls hd => by cases hX; exact w_vret C hr hd) _ hf rfl)
def f_Po_runOut (a0 : Nat) (a1 : Int32) (M : SM) : Option SM := (f_Sp_at (jpf a0 0) a1 M).bind fun q1 => (f_Sp_at (jpf a0 0) a1 M).bind fun q2 => (f_Sp_put (jpf a0 0) a1 (q2 - (q1 / 2)) M).bind fun q3 => some (sI q3 a0 3 ((q3.1 a0 3) + (q1 / 2)))
section
variable {p : Program} {l : Launch} {e : Env} {R : Room} {s : State} {m : MethodId} {args : Array Value} {below : List Frame} {meth : Method} {c : Code} {G : JG} {D : Nat} {Q : State → Prop}
set_option maxHeartbeats 4000000 in
set_option maxRecDepth 20000 in
theorem K_Po_runOut (C : jCx p R s m args meth c G jb_Po_runOut 3 D "SluicePit$Pool") (F : jF G = false) (hD : 2 ≤ D) (a0 : Nat) (a1 : Int32) (hp0 : jkd a0 5) (M : SM) (X : SM → Prop) (hR : ∀ M', X M' → ∀ (pc : Nat) (ls : List (Option Value)), decode jb_Po_runOut pc = .ok (.return_, 1) → Wk p l e R s m args below meth c G 3 Q 0 0 jN0 (jce G M') pc ls []) : J X (f_Po_runOut a0 a1 M) (Wk p l e R s m args below meth c G 3 Q 0 0 jN0 (jce G M) 0 [some (.ref a0), some (.int a1), none] []) := by
  unfold f_Po_runOut
  refine J_mono (w_aload_n C (jd jdt_Po_runOut 0 rfl) rfl) ?_
  refine J_mono (jg_Po_9 C hp0 (jd jdt_Po_runOut 1 rfl)) ?_
  refine J_mono (w_iload_n C (jd jdt_Po_runOut 2 rfl) rfl) ?_
  refine J_bind (fun q1 hq1 => ?_)
  refine J_mono (jc_Po_40 C (C_Sp_at l G F (jpf a0 0) a1 (jkf_5_0 hp0) M hq1) rfl (Nat.le_trans (Nat.le_of_ble_eq_true rfl : 1 + 1 ≤ 2) hD) (jd jdt_Po_runOut 3 rfl)) ?_
  refine J_mono (w_iconst_2 C (jd jdt_Po_runOut 4 rfl)) ?_
  refine J_mono (w_idiv C (jd jdt_Po_runOut 5 rfl) (by decide)) ?_
  refine J_mono (w_istore_n (ls' := [some (.ref a0), some (.int a1), some (.int (q1 / 2))]) C (jd jdt_Po_runOut 6 rfl) (by decide) rfl rfl) ?_
  refine J_mono (w_aload_n C (jd jdt_Po_runOut 7 rfl) rfl) ?_
  refine J_mono (jg_Po_9 C hp0 (jd jdt_Po_runOut 8 rfl)) ?_
  refine J_mono (w_iload_n C (jd jdt_Po_runOut 9 rfl) rfl) ?_
  refine J_mono (w_aload_n C (jd jdt_Po_runOut 10 rfl) rfl) ?_
  refine J_mono (jg_Po_9 C hp0 (jd jdt_Po_runOut 11 rfl)) ?_
  refine J_mono (w_iload_n C (jd jdt_Po_runOut 12 rfl) rfl) ?_
  refine J_bind (fun q2 hq2 => ?_)
  refine J_mono (jc_Po_40 C (C_Sp_at l G F (jpf a0 0) a1 (jkf_5_0 hp0) M hq2) rfl (Nat.le_trans (Nat.le_of_ble_eq_true rfl : 1 + 1 ≤ 2) hD) (jd jdt_Po_runOut 13 rfl)) ?_
  refine J_mono (w_iload_n C (jd jdt_Po_runOut 14 rfl) rfl) ?_
  refine J_mono (w_isub C (jd jdt_Po_runOut 15 rfl)) ?_
  refine J_bind (fun q3 hq3 => ?_)
  refine J_mono (jc_Po_44 C (C_Sp_put l G F (jpf a0 0) a1 (q2 - (q1 / 2)) (jkf_5_0 hp0) M hq3) rfl (Nat.le_trans (Nat.le_of_ble_eq_true rfl : 1 + 1 ≤ 2) hD) (jd jdt_Po_runOut 16 rfl)) ?_
  refine J_mono (w_aload_n C (jd jdt_Po_runOut 17 rfl) rfl) ?_
  refine J_mono (w_dup_r C (jd jdt_Po_runOut 18 rfl)) ?_
  refine J_mono (jg_Po_63 C hp0 (jd jdt_Po_runOut 19 rfl)) ?_
  refine J_mono (w_iload_n C (jd jdt_Po_runOut 20 rfl) rfl) ?_
  refine J_mono (w_iadd C (jd jdt_Po_runOut 21 rfl)) ?_
  refine J_mono (jp_Po_63 C F hp0 (jd jdt_Po_runOut 22 rfl)) ?_
  exact J_some (fun hx => hR (sI q3 a0 3 ((q3.1 a0 3) + (q1 / 2))) hx _ _ (jd jdt_Po_runOut 23 rfl))
end
theorem C_Po_runOut (l : Launch) (G : JG) (F : jF G = false) (a0 : Nat) (a1 : Int32) (hp0 : jkd a0 5) (M : SM) {q : SM} (hf : f_Po_runOut a0 a1 M = some q) : jMet l jy_Po_runOut jb_Po_runOut 3 none 2 0 0 G [.ref a0, .int a1] jN0 (jce G M) none jN0 (jce G q) :=
  j_met jo_Po_runOut (by decide) (Nat.le_of_ble_eq_true rfl) (fun p e s m args below meth c C hr hm => K_Po_runOut C F (Nat.le_refl _) a0 a1 hp0 M (fun t => t = q) (fun M' hX pc ls hd => by cases hX; exact w_vret C hr hd) _ hf rfl)
def f_St_amountOf (a0 : Nat) (a1 : Int32) (M : SM) : Option Int32 := (f_Sp_at (jpf a0 1) a1 M).bind fun q1 => some q1
section
variable {p : Program} {l : Launch} {e : Env} {R : Room} {s : State} {m : MethodId} {args : Array Value} {below : List Frame} {meth : Method} {c : Code} {G : JG} {D : Nat} {Q : State → Prop}
set_option maxHeartbeats 4000000 in
set_option maxRecDepth 20000 in
theorem K_St_amountOf (C : jCx p R s m args meth c G jb_St_amountOf 2 D "SluicePit$Stand") (F : jF G = false) (hD : 2 ≤ D) (a0 : Nat) (a1 : Int32) (hp0 : jkd a0 9) (M : SM) (X : Int32 → Prop) (hR : ∀ v, X v → ∀ (pc : Nat) (ls : List (Option Value)), decode jb_St_amountOf pc = .ok (.ireturn, 1) → narrow FieldType.int (.int v) = .int v → Wk p l e R s m args below meth c G 2 Q 0 0 jN0 (jce G M) pc ls [.int v]) : J X (f_St_amountOf a0 a1 M) (Wk p l e R s m args below meth c G 2 Q 0 0 jN0 (jce G M) 0 [some (.ref a0), some (.int a1)] []) := by
  unfold f_St_amountOf
  refine J_mono (w_aload_n C (jd jdt_St_amountOf 0 rfl) rfl) ?_
  refine J_mono (jg_St_15 C hp0 (jd jdt_St_amountOf 1 rfl)) ?_
  refine J_mono (w_iload_n C (jd jdt_St_amountOf 2 rfl) rfl) ?_
  refine J_bind (fun q1 hq1 => ?_)
  refine J_mono (jc_St_22 C (C_Sp_at l G F (jpf a0 1) a1 (jkf_9_1 hp0) M hq1) rfl (Nat.le_trans (Nat.le_of_ble_eq_true rfl : 1 + 1 ≤ 2) hD) (jd jdt_St_amountOf 3 rfl)) ?_
  exact J_some (fun hx => hR q1 hx _ _ (jd jdt_St_amountOf 4 rfl) rfl)
end
theorem C_St_amountOf (l : Launch) (G : JG) (F : jF G = false) (a0 : Nat) (a1 : Int32) (hp0 : jkd a0 9) (M : SM) {q : Int32} (hf : f_St_amountOf a0 a1 M = some q) : jMet l jy_St_amountOf jb_St_amountOf 2 (some FieldType.int) 2 0 0 G [.ref a0, .int a1] jN0 (jce G M) (some (.int q)) jN0 (jce G M) :=
  j_met jo_St_amountOf (by decide) (Nat.le_of_ble_eq_true rfl) (fun p e s m args below meth c C hr hm => K_St_amountOf C F (Nat.le_refl _) a0 a1 hp0 M (fun t => t = q) (fun v hX pc ls hd hn => by cases hX; exact w_iret C hr hn hd) _ hf rfl)
def lp_Po_drink_2 (y0 : Nat) (y1 : Nat) : Nat → Int32 → SM → Option (SM)
  | 0, _, _ => none
  | n + 1, x2, M => if x2 < (M.1 (jpf y1 12) 2) then ((f_St_cellOfOne (jpf y1 12) x2 M).bind fun q2 => (f_St_amountOf (jpf y1 12) x2 M).bind fun q3 => (f_Sp_at (jpf y0 0) q2 M).bind fun q4 => (f_Sp_at (jpf y0 0) q2 M).bind fun q5 => (f_Sp_put (jpf y0 0) q2 (q5 - (jmin q3 q4)) M).bind fun q6 => lp_Po_drink_2 y0 y1 n (x2 + 1) (sI q6 y0 4 ((q6.1 y0 4) + (jmin q3 q4)))) else (some M)
def f_Po_drink (a0 : Nat) (a1 : Nat) (M : SM) : Option SM := (lp_Po_drink_2 a0 a1 jfuel 0 M).bind fun q7 => some q7
section
variable {p : Program} {l : Launch} {e : Env} {R : Room} {s : State} {m : MethodId} {args : Array Value} {below : List Frame} {meth : Method} {c : Code} {G : JG} {D : Nat} {Q : State → Prop}
set_option maxHeartbeats 4000000 in
set_option maxRecDepth 20000 in
theorem K_Po_drink (C : jCx p R s m args meth c G jb_Po_drink 5 D "SluicePit$Pool") (F : jF G = false) (hD : 7 ≤ D) (a0 : Nat) (a1 : Nat) (hp0 : jkd a0 5) (hp1 : jkd a1 1) (M : SM) (X : SM → Prop) (hR : ∀ M', X M' → ∀ (pc : Nat) (ls : List (Option Value)), decode jb_Po_drink pc = .ok (.return_, 1) → Wk p l e R s m args below meth c G 5 Q 0 0 jN0 (jce G M') pc ls []) : J X (f_Po_drink a0 a1 M) (Wk p l e R s m args below meth c G 5 Q 0 0 jN0 (jce G M) 0 [some (.ref a0), some (.ref a1), none, none, none] []) := by
  unfold f_Po_drink
  refine J_mono (w_iconst_0 C (jd jdt_Po_drink 0 rfl)) ?_
  refine J_mono (w_istore_n (ls' := [some (.ref a0), some (.ref a1), some (.int 0), none, none]) C (jd jdt_Po_drink 1 rfl) (by decide) rfl rfl) ?_
  have L2 : ∀ (y0 : Nat) (y1 : Nat) (hy0 : jkd y0 5) (hy1 : jkd y1 1) (n : Nat) (x2 : Int32) (M : SM), J (fun (q7 : SM) => Wk p l e R s m args below meth c G 5 Q 0 0 jN0 (jce G q7) 79 [none, none, none, none, none] []) (lp_Po_drink_2 y0 y1 n x2 M) (Wk p l e R s m args below meth c G 5 Q 0 0 jN0 (jce G M) 2 [some (.ref y0), some (.ref y1), some (.int x2), none, none] []) := by
    intro y0 y1 hy0 hy1 n
    induction n with
    | zero => intro x2 M; exact J_none
    | succ n ih =>
      intro x2 M
      unfold lp_Po_drink_2
      refine J_mono (w_iload_n C (jd jdt_Po_drink 2 rfl) rfl) ?_
      refine J_mono (w_aload_n C (jd jdt_Po_drink 3 rfl) rfl) ?_
      refine J_mono (jg_Po_144 C hy1 (jd jdt_Po_drink 4 rfl)) ?_
      refine J_mono (jg_Po_51 C (jkf_1_12 hy1) (jd jdt_Po_drink 5 rfl)) ?_
      refine J_br (w_icmp_ge C (jd jdt_Po_drink 6 rfl) rfl) (fun h1 => J_pos h1 ?_) (fun h1 => J_neg h1 ?_)
      · refine J_mono (w_aload_n C (jd jdt_Po_drink 7 rfl) rfl) ?_
        refine J_mono (jg_Po_144 C hy1 (jd jdt_Po_drink 8 rfl)) ?_
        refine J_mono (w_iload_n C (jd jdt_Po_drink 9 rfl) rfl) ?_
        refine J_bind (fun q2 hq2 => ?_)
        refine J_mono (jc_Po_56 C (jkf_1_12 hy1) (C_St_cellOfOne l G F (jpf y1 12) x2 (jkf_1_12 hy1) M hq2) rfl (Nat.le_trans (Nat.le_of_ble_eq_true rfl : 2 + 1 ≤ 7) hD) (jd jdt_Po_drink 10 rfl)) ?_
        refine J_mono (w_istore_n (ls' := [some (.ref y0), some (.ref y1), some (.int x2), some (.int q2), none]) C (jd jdt_Po_drink 11 rfl) (by decide) rfl rfl) ?_
        refine J_mono (w_aload_n C (jd jdt_Po_drink 12 rfl) rfl) ?_
        refine J_mono (jg_Po_144 C hy1 (jd jdt_Po_drink 13 rfl)) ?_
        refine J_mono (w_iload_n C (jd jdt_Po_drink 14 rfl) rfl) ?_
        refine J_bind (fun q3 hq3 => ?_)
        refine J_mono (jc_Po_147 C (jkf_1_12 hy1) (C_St_amountOf l G F (jpf y1 12) x2 (jkf_1_12 hy1) M hq3) rfl (Nat.le_trans (Nat.le_of_ble_eq_true rfl : 2 + 1 ≤ 7) hD) (jd jdt_Po_drink 15 rfl)) ?_
        refine J_mono (w_aload_n C (jd jdt_Po_drink 16 rfl) rfl) ?_
        refine J_mono (jg_Po_9 C hy0 (jd jdt_Po_drink 17 rfl)) ?_
        refine J_mono (w_iload_n C (jd jdt_Po_drink 18 rfl) rfl) ?_
        refine J_bind (fun q4 hq4 => ?_)
        refine J_mono (jc_Po_40 C (C_Sp_at l G F (jpf y0 0) q2 (jkf_5_0 hy0) M hq4) rfl (Nat.le_trans (Nat.le_of_ble_eq_true rfl : 1 + 1 ≤ 7) hD) (jd jdt_Po_drink 19 rfl)) ?_
        refine J_mono (w_mmin C (Nat.zero_le _) (Nat.zero_le _) (Nat.le_of_ble_eq_true rfl) jw_760 (jd jdt_Po_drink 20 rfl)) ?_
        refine J_mono (w_istore (ls' := [some (.ref y0), some (.ref y1), some (.int x2), some (.int q2), some (.int (jmin q3 q4))]) C (jd jdt_Po_drink 21 rfl) (by decide) rfl rfl) ?_
        refine J_mono (w_aload_n C (jd jdt_Po_drink 22 rfl) rfl) ?_
        refine J_mono (jg_Po_9 C hy0 (jd jdt_Po_drink 23 rfl)) ?_
        refine J_mono (w_iload_n C (jd jdt_Po_drink 24 rfl) rfl) ?_
        refine J_mono (w_aload_n C (jd jdt_Po_drink 25 rfl) rfl) ?_
        refine J_mono (jg_Po_9 C hy0 (jd jdt_Po_drink 26 rfl)) ?_
        refine J_mono (w_iload_n C (jd jdt_Po_drink 27 rfl) rfl) ?_
        refine J_bind (fun q5 hq5 => ?_)
        refine J_mono (jc_Po_40 C (C_Sp_at l G F (jpf y0 0) q2 (jkf_5_0 hy0) M hq5) rfl (Nat.le_trans (Nat.le_of_ble_eq_true rfl : 1 + 1 ≤ 7) hD) (jd jdt_Po_drink 28 rfl)) ?_
        refine J_mono (w_iload C (jd jdt_Po_drink 29 rfl) rfl) ?_
        refine J_mono (w_isub C (jd jdt_Po_drink 30 rfl)) ?_
        refine J_bind (fun q6 hq6 => ?_)
        refine J_mono (jc_Po_44 C (C_Sp_put l G F (jpf y0 0) q2 (q5 - (jmin q3 q4)) (jkf_5_0 hy0) M hq6) rfl (Nat.le_trans (Nat.le_of_ble_eq_true rfl : 1 + 1 ≤ 7) hD) (jd jdt_Po_drink 31 rfl)) ?_
        refine J_mono (w_aload_n C (jd jdt_Po_drink 32 rfl) rfl) ?_
        refine J_mono (w_dup_r C (jd jdt_Po_drink 33 rfl)) ?_
        refine J_mono (jg_Po_66 C hy0 (jd jdt_Po_drink 34 rfl)) ?_
        refine J_mono (w_iload C (jd jdt_Po_drink 35 rfl) rfl) ?_
        refine J_mono (w_iadd C (jd jdt_Po_drink 36 rfl)) ?_
        refine J_mono (jp_Po_66 C F hy0 (jd jdt_Po_drink 37 rfl)) ?_
        refine J_mono (w_iinc (v := x2 + 1) (ls' := [some (.ref y0), some (.ref y1), some (.int (x2 + 1)), some (.int q2), some (.int (jmin q3 q4))]) C (jd jdt_Po_drink 38 rfl) rfl rfl (by decide) rfl rfl) ?_
        refine J_mono (w_goto C (jd jdt_Po_drink 39 rfl) rfl) ?_
        exact J_sub (ih (x2 + 1) (sI q6 y0 4 ((q6.1 y0 4) + (jmin q3 q4)))) ⟨rfl, rfl, rfl, trivial⟩
      · exact J_some (fun hx => Wk_sb hx trivial)
  refine J_seq (fun (q7 : SM) => Wk p l e R s m args below meth c G 5 Q 0 0 jN0 (jce G q7) 79 [none, none, none, none, none] []) (J_sub (L2 a0 a1 hp0 hp1 jfuel 0 M) ⟨rfl, rfl, rfl, trivial⟩) (fun q7 hq7 => ?_)
  exact J_some (fun hx => hR q7 hx _ _ (jd jdt_Po_drink 40 rfl))
end
theorem C_Po_drink (l : Launch) (G : JG) (F : jF G = false) (a0 : Nat) (a1 : Nat) (hp0 : jkd a0 5) (hp1 : jkd a1 1) (M : SM) {q : SM} (hf : f_Po_drink a0 a1 M = some q) : jMet l jy_Po_drink jb_Po_drink 5 none 7 0 0 G [.ref a0, .ref a1] jN0 (jce G M) none jN0 (jce G q) :=
  j_met jo_Po_drink (by decide) (Nat.le_of_ble_eq_true rfl) (fun p e s m args below meth c C hr hm => K_Po_drink C F (Nat.le_refl _) a0 a1 hp0 hp1 M (fun t => t = q) (fun M' hX pc ls hd => by cases hX; exact w_vret C hr hd) _ hf rfl)
def lp_Po_spill_2 (y0 : Nat) (y1 : Nat) : Nat → Int32 → SM → Option (SM)
  | 0, _, _ => none
  | n + 1, x2, M => if x2 < (M.1 y1 1) then ((f_Sp_at (jpf y0 0) x2 M).bind fun q2 => (f_Sp_at (jpf y0 0) x2 M).bind fun q3 => (f_Sp_put (jpf y0 0) x2 (q3 - (jmax 0 (q2 - (M.1 y1 3)))) M).bind fun q4 => lp_Po_spill_2 y0 y1 n (x2 + 1) (sI q4 y0 5 ((q4.1 y0 5) + (jmax 0 (q2 - (M.1 y1 3)))))) else (some M)
def f_Po_spill (a0 : Nat) (a1 : Nat) (M : SM) : Option SM := (lp_Po_spill_2 a0 a1 jfuel 0 M).bind fun q5 => some q5
section
variable {p : Program} {l : Launch} {e : Env} {R : Room} {s : State} {m : MethodId} {args : Array Value} {below : List Frame} {meth : Method} {c : Code} {G : JG} {D : Nat} {Q : State → Prop}
set_option maxHeartbeats 4000000 in
set_option maxRecDepth 20000 in
theorem K_Po_spill (C : jCx p R s m args meth c G jb_Po_spill 4 D "SluicePit$Pool") (F : jF G = false) (hD : 7 ≤ D) (a0 : Nat) (a1 : Nat) (hp0 : jkd a0 5) (hp1 : jkd a1 1) (M : SM) (X : SM → Prop) (hR : ∀ M', X M' → ∀ (pc : Nat) (ls : List (Option Value)), decode jb_Po_spill pc = .ok (.return_, 1) → Wk p l e R s m args below meth c G 4 Q 0 0 jN0 (jce G M') pc ls []) : J X (f_Po_spill a0 a1 M) (Wk p l e R s m args below meth c G 4 Q 0 0 jN0 (jce G M) 0 [some (.ref a0), some (.ref a1), none, none] []) := by
  unfold f_Po_spill
  refine J_mono (w_iconst_0 C (jd jdt_Po_spill 0 rfl)) ?_
  refine J_mono (w_istore_n (ls' := [some (.ref a0), some (.ref a1), some (.int 0), none]) C (jd jdt_Po_spill 1 rfl) (by decide) rfl rfl) ?_
  have L2 : ∀ (y0 : Nat) (y1 : Nat) (hy0 : jkd y0 5) (hy1 : jkd y1 1) (n : Nat) (x2 : Int32) (M : SM), J (fun (q5 : SM) => Wk p l e R s m args below meth c G 4 Q 0 0 jN0 (jce G q5) 62 [none, none, none, none] []) (lp_Po_spill_2 y0 y1 n x2 M) (Wk p l e R s m args below meth c G 4 Q 0 0 jN0 (jce G M) 2 [some (.ref y0), some (.ref y1), some (.int x2), none] []) := by
    intro y0 y1 hy0 hy1 n
    induction n with
    | zero => intro x2 M; exact J_none
    | succ n ih =>
      intro x2 M
      unfold lp_Po_spill_2
      refine J_mono (w_iload_n C (jd jdt_Po_spill 2 rfl) rfl) ?_
      refine J_mono (w_aload_n C (jd jdt_Po_spill 3 rfl) rfl) ?_
      refine J_mono (jg_Po_34 C hy1 (jd jdt_Po_spill 4 rfl)) ?_
      refine J_br (w_icmp_ge C (jd jdt_Po_spill 5 rfl) rfl) (fun h1 => J_pos h1 ?_) (fun h1 => J_neg h1 ?_)
      · refine J_mono (w_iconst_0 C (jd jdt_Po_spill 6 rfl)) ?_
        refine J_mono (w_aload_n C (jd jdt_Po_spill 7 rfl) rfl) ?_
        refine J_mono (jg_Po_9 C hy0 (jd jdt_Po_spill 8 rfl)) ?_
        refine J_mono (w_iload_n C (jd jdt_Po_spill 9 rfl) rfl) ?_
        refine J_bind (fun q2 hq2 => ?_)
        refine J_mono (jc_Po_40 C (C_Sp_at l G F (jpf y0 0) x2 (jkf_5_0 hy0) M hq2) rfl (Nat.le_trans (Nat.le_of_ble_eq_true rfl : 1 + 1 ≤ 7) hD) (jd jdt_Po_spill 10 rfl)) ?_
        refine J_mono (w_aload_n C (jd jdt_Po_spill 11 rfl) rfl) ?_
        refine J_mono (jg_Po_150 C hy1 (jd jdt_Po_spill 12 rfl)) ?_
        refine J_mono (w_isub C (jd jdt_Po_spill 13 rfl)) ?_
        refine J_mono (w_mmax C (Nat.zero_le _) (Nat.zero_le _) (Nat.le_of_ble_eq_true rfl) jw_777 (jd jdt_Po_spill 14 rfl)) ?_
        refine J_mono (w_istore_n (ls' := [some (.ref y0), some (.ref y1), some (.int x2), some (.int (jmax 0 (q2 - (M.1 y1 3))))]) C (jd jdt_Po_spill 15 rfl) (by decide) rfl rfl) ?_
        refine J_mono (w_aload_n C (jd jdt_Po_spill 16 rfl) rfl) ?_
        refine J_mono (jg_Po_9 C hy0 (jd jdt_Po_spill 17 rfl)) ?_
        refine J_mono (w_iload_n C (jd jdt_Po_spill 18 rfl) rfl) ?_
        refine J_mono (w_aload_n C (jd jdt_Po_spill 19 rfl) rfl) ?_
        refine J_mono (jg_Po_9 C hy0 (jd jdt_Po_spill 20 rfl)) ?_
        refine J_mono (w_iload_n C (jd jdt_Po_spill 21 rfl) rfl) ?_
        refine J_bind (fun q3 hq3 => ?_)
        refine J_mono (jc_Po_40 C (C_Sp_at l G F (jpf y0 0) x2 (jkf_5_0 hy0) M hq3) rfl (Nat.le_trans (Nat.le_of_ble_eq_true rfl : 1 + 1 ≤ 7) hD) (jd jdt_Po_spill 22 rfl)) ?_
        refine J_mono (w_iload_n C (jd jdt_Po_spill 23 rfl) rfl) ?_
        refine J_mono (w_isub C (jd jdt_Po_spill 24 rfl)) ?_
        refine J_bind (fun q4 hq4 => ?_)
        refine J_mono (jc_Po_44 C (C_Sp_put l G F (jpf y0 0) x2 (q3 - (jmax 0 (q2 - (M.1 y1 3)))) (jkf_5_0 hy0) M hq4) rfl (Nat.le_trans (Nat.le_of_ble_eq_true rfl : 1 + 1 ≤ 7) hD) (jd jdt_Po_spill 25 rfl)) ?_
        refine J_mono (w_aload_n C (jd jdt_Po_spill 26 rfl) rfl) ?_
        refine J_mono (w_dup_r C (jd jdt_Po_spill 27 rfl)) ?_
        refine J_mono (jg_Po_69 C hy0 (jd jdt_Po_spill 28 rfl)) ?_
        refine J_mono (w_iload_n C (jd jdt_Po_spill 29 rfl) rfl) ?_
        refine J_mono (w_iadd C (jd jdt_Po_spill 30 rfl)) ?_
        refine J_mono (jp_Po_69 C F hy0 (jd jdt_Po_spill 31 rfl)) ?_
        refine J_mono (w_iinc (v := x2 + 1) (ls' := [some (.ref y0), some (.ref y1), some (.int (x2 + 1)), some (.int (jmax 0 (q2 - (M.1 y1 3))))]) C (jd jdt_Po_spill 32 rfl) rfl rfl (by decide) rfl rfl) ?_
        refine J_mono (w_goto C (jd jdt_Po_spill 33 rfl) rfl) ?_
        exact J_sub (ih (x2 + 1) (sI q4 y0 5 ((q4.1 y0 5) + (jmax 0 (q2 - (M.1 y1 3)))))) ⟨rfl, rfl, rfl, trivial⟩
      · exact J_some (fun hx => Wk_sb hx trivial)
  refine J_seq (fun (q5 : SM) => Wk p l e R s m args below meth c G 4 Q 0 0 jN0 (jce G q5) 62 [none, none, none, none] []) (J_sub (L2 a0 a1 hp0 hp1 jfuel 0 M) ⟨rfl, rfl, rfl, trivial⟩) (fun q5 hq5 => ?_)
  exact J_some (fun hx => hR q5 hx _ _ (jd jdt_Po_spill 34 rfl))
end
theorem C_Po_spill (l : Launch) (G : JG) (F : jF G = false) (a0 : Nat) (a1 : Nat) (hp0 : jkd a0 5) (hp1 : jkd a1 1) (M : SM) {q : SM} (hf : f_Po_spill a0 a1 M = some q) : jMet l jy_Po_spill jb_Po_spill 4 none 7 0 0 G [.ref a0, .ref a1] jN0 (jce G M) none jN0 (jce G q) :=
  j_met jo_Po_spill (by decide) (Nat.le_of_ble_eq_true rfl) (fun p e s m args below meth c C hr hm => K_Po_spill C F (Nat.le_refl _) a0 a1 hp0 hp1 M (fun t => t = q) (fun M' hX pc ls hd => by cases hX; exact w_vret C hr hd) _ hf rfl)
def f_Po_isAground (a0 : Nat) (a1 : Nat) (a2 : Int32) (M : SM) : Option Int32 := (f_Sp_at (jpf a0 1) a2 M).bind fun q1 => (f_Sp_at (jpf a0 0) q1 M).bind fun q2 => (f_St_amountOf (jpf a1 11) a2 M).bind fun q3 => if q2 < q3 then (some 1) else (some 0)
section
variable {p : Program} {l : Launch} {e : Env} {R : Room} {s : State} {m : MethodId} {args : Array Value} {below : List Frame} {meth : Method} {c : Code} {G : JG} {D : Nat} {Q : State → Prop}
set_option maxHeartbeats 4000000 in
set_option maxRecDepth 20000 in
theorem K_Po_isAground (C : jCx p R s m args meth c G jb_Po_isAground 3 D "SluicePit$Pool") (F : jF G = false) (hD : 3 ≤ D) (a0 : Nat) (a1 : Nat) (a2 : Int32) (hp0 : jkd a0 5) (hp1 : jkd a1 1) (M : SM) (X : Int32 → Prop) (hR : ∀ v, X v → ∀ (pc : Nat) (ls : List (Option Value)), decode jb_Po_isAground pc = .ok (.ireturn, 1) → narrow FieldType.boolean (.int v) = .int v → Wk p l e R s m args below meth c G 3 Q 0 0 jN0 (jce G M) pc ls [.int v]) : J X (f_Po_isAground a0 a1 a2 M) (Wk p l e R s m args below meth c G 3 Q 0 0 jN0 (jce G M) 0 [some (.ref a0), some (.ref a1), some (.int a2)] []) := by
  unfold f_Po_isAground
  refine J_mono (w_aload_n C (jd jdt_Po_isAground 0 rfl) rfl) ?_
  refine J_mono (jg_Po_9 C hp0 (jd jdt_Po_isAground 1 rfl)) ?_
  refine J_mono (w_aload_n C (jd jdt_Po_isAground 2 rfl) rfl) ?_
  refine J_mono (jg_Po_15 C hp0 (jd jdt_Po_isAground 3 rfl)) ?_
  refine J_mono (w_iload_n C (jd jdt_Po_isAground 4 rfl) rfl) ?_
  refine J_bind (fun q1 hq1 => ?_)
  refine J_mono (jc_Po_40 C (C_Sp_at l G F (jpf a0 1) a2 (jkf_5_1 hp0) M hq1) rfl (Nat.le_trans (Nat.le_of_ble_eq_true rfl : 1 + 1 ≤ 3) hD) (jd jdt_Po_isAground 5 rfl)) ?_
  refine J_bind (fun q2 hq2 => ?_)
  refine J_mono (jc_Po_40 C (C_Sp_at l G F (jpf a0 0) q1 (jkf_5_0 hp0) M hq2) rfl (Nat.le_trans (Nat.le_of_ble_eq_true rfl : 1 + 1 ≤ 3) hD) (jd jdt_Po_isAground 6 rfl)) ?_
  refine J_mono (w_aload_n C (jd jdt_Po_isAground 7 rfl) rfl) ?_
  refine J_mono (jg_Po_48 C hp1 (jd jdt_Po_isAground 8 rfl)) ?_
  refine J_mono (w_iload_n C (jd jdt_Po_isAground 9 rfl) rfl) ?_
  refine J_bind (fun q3 hq3 => ?_)
  refine J_mono (jc_Po_147 C (jkf_1_11 hp1) (C_St_amountOf l G F (jpf a1 11) a2 (jkf_1_11 hp1) M hq3) rfl (Nat.le_trans (Nat.le_of_ble_eq_true rfl : 2 + 1 ≤ 3) hD) (jd jdt_Po_isAground 10 rfl)) ?_
  refine J_br (w_icmp_ge C (jd jdt_Po_isAground 11 rfl) rfl) (fun h4 => J_pos h4 ?_) (fun h4 => J_neg h4 ?_)
  · refine J_mono (w_iconst_1 C (jd jdt_Po_isAground 12 rfl)) ?_
    refine J_mono (w_goto C (jd jdt_Po_isAground 13 rfl) rfl) ?_
    exact J_some (fun hx => hR 1 hx _ _ (jd jdt_Po_isAground 15 rfl) rfl)
  · refine J_mono (w_iconst_0 C (jd jdt_Po_isAground 14 rfl)) ?_
    exact J_some (fun hx => hR 0 hx _ _ (jd jdt_Po_isAground 15 rfl) rfl)
end
theorem C_Po_isAground (l : Launch) (G : JG) (F : jF G = false) (a0 : Nat) (a1 : Nat) (a2 : Int32) (hp0 : jkd a0 5) (hp1 : jkd a1 1) (M : SM) {q : Int32} (hf : f_Po_isAground a0 a1 a2 M = some q) : jMet l jy_Po_isAground jb_Po_isAground 3 (some FieldType.boolean) 3 0 0 G [.ref a0, .ref a1, .int a2] jN0 (jce G M) (some (.int q)) jN0 (jce G M) :=
  j_met jo_Po_isAground (by decide) (Nat.le_of_ble_eq_true rfl) (fun p e s m args below meth c C hr hm => K_Po_isAground C F (Nat.le_refl _) a0 a1 a2 hp0 hp1 M (fun t => t = q) (fun v hX pc ls hd hn => by cases hX; exact w_iret C hr hn hd) _ hf rfl)
def f_Po_isLast (a0 : Nat) (a1 : Nat) (a2 : Int32) (M : SM) : Option Int32 := (f_Sp_at (jpf a0 1) a2 M).bind fun q1 => if q1 = ((M.1 a1 1) - 1) then (some 1) else (some 0)
section
variable {p : Program} {l : Launch} {e : Env} {R : Room} {s : State} {m : MethodId} {args : Array Value} {below : List Frame} {meth : Method} {c : Code} {G : JG} {D : Nat} {Q : State → Prop}
set_option maxHeartbeats 4000000 in
set_option maxRecDepth 20000 in
theorem K_Po_isLast (C : jCx p R s m args meth c G jb_Po_isLast 3 D "SluicePit$Pool") (F : jF G = false) (hD : 2 ≤ D) (a0 : Nat) (a1 : Nat) (a2 : Int32) (hp0 : jkd a0 5) (hp1 : jkd a1 1) (M : SM) (X : Int32 → Prop) (hR : ∀ v, X v → ∀ (pc : Nat) (ls : List (Option Value)), decode jb_Po_isLast pc = .ok (.ireturn, 1) → narrow FieldType.boolean (.int v) = .int v → Wk p l e R s m args below meth c G 3 Q 0 0 jN0 (jce G M) pc ls [.int v]) : J X (f_Po_isLast a0 a1 a2 M) (Wk p l e R s m args below meth c G 3 Q 0 0 jN0 (jce G M) 0 [some (.ref a0), some (.ref a1), some (.int a2)] []) := by
  unfold f_Po_isLast
  refine J_mono (w_aload_n C (jd jdt_Po_isLast 0 rfl) rfl) ?_
  refine J_mono (jg_Po_15 C hp0 (jd jdt_Po_isLast 1 rfl)) ?_
  refine J_mono (w_iload_n C (jd jdt_Po_isLast 2 rfl) rfl) ?_
  refine J_bind (fun q1 hq1 => ?_)
  refine J_mono (jc_Po_40 C (C_Sp_at l G F (jpf a0 1) a2 (jkf_5_1 hp0) M hq1) rfl (Nat.le_trans (Nat.le_of_ble_eq_true rfl : 1 + 1 ≤ 2) hD) (jd jdt_Po_isLast 3 rfl)) ?_
  refine J_mono (w_aload_n C (jd jdt_Po_isLast 4 rfl) rfl) ?_
  refine J_mono (jg_Po_34 C hp1 (jd jdt_Po_isLast 5 rfl)) ?_
  refine J_mono (w_iconst_1 C (jd jdt_Po_isLast 6 rfl)) ?_
  refine J_mono (w_isub C (jd jdt_Po_isLast 7 rfl)) ?_
  refine J_br (w_icmp_ne C (jd jdt_Po_isLast 8 rfl) rfl) (fun h2 => J_pos h2 ?_) (fun h2 => J_neg h2 ?_)
  · refine J_mono (w_iconst_1 C (jd jdt_Po_isLast 9 rfl)) ?_
    refine J_mono (w_goto C (jd jdt_Po_isLast 10 rfl) rfl) ?_
    exact J_some (fun hx => hR 1 hx _ _ (jd jdt_Po_isLast 12 rfl) rfl)
  · refine J_mono (w_iconst_0 C (jd jdt_Po_isLast 11 rfl)) ?_
    exact J_some (fun hx => hR 0 hx _ _ (jd jdt_Po_isLast 12 rfl) rfl)
end
theorem C_Po_isLast (l : Launch) (G : JG) (F : jF G = false) (a0 : Nat) (a1 : Nat) (a2 : Int32) (hp0 : jkd a0 5) (hp1 : jkd a1 1) (M : SM) {q : Int32} (hf : f_Po_isLast a0 a1 a2 M = some q) : jMet l jy_Po_isLast jb_Po_isLast 3 (some FieldType.boolean) 2 0 0 G [.ref a0, .ref a1, .int a2] jN0 (jce G M) (some (.int q)) jN0 (jce G M) :=
  j_met jo_Po_isLast (by decide) (Nat.le_of_ble_eq_true rfl) (fun p e s m args below meth c C hr hm => K_Po_isLast C F (Nat.le_refl _) a0 a1 a2 hp0 hp1 M (fun t => t = q) (fun v hX pc ls hd hn => by cases hX; exact w_iret C hr hn hd) _ hf rfl)
def lp_Po_sail_2 (y0 : Nat) (y1 : Nat) : Nat → Int32 → SM → Option (SM)
  | 0, _, _ => none
  | n + 1, x2, M => if x2 < (M.1 (jpf y1 11) 2) then ((f_Sp_at (jpf y0 1) x2 M).bind fun q2 => (f_Po_isAground y0 y1 x2 M).bind fun q3 => (if q3 = 0 then ((f_Po_isLast y0 y1 x2 M).bind fun q6 => if q6 = 0 then (some 1) else (some 0)) else (some 0) : Option (Int32)).bind fun q4 => (if q4 = 0 then (some M) else ((f_Po_isShut y0 y1 q2 M).bind fun q10 => if q10 = 0 then ((f_Sp_at (jpf y0 0) (q2 + 1) M).bind fun q12 => (f_St_amountOf (jpf y1 11) x2 M).bind fun q13 => if q12 < q13 then (some M) else ((f_Sp_put (jpf y0 1) x2 (q2 + 1) M).bind fun q15 => some q15)) else (some M)) : Option (SM)).bind fun q8 => lp_Po_sail_2 y0 y1 n (x2 + 1) q8) else (some M)
def f_Po_sail (a0 : Nat) (a1 : Nat) (M : SM) : Option SM := (lp_Po_sail_2 a0 a1 jfuel 0 M).bind fun q16 => some q16
section
variable {p : Program} {l : Launch} {e : Env} {R : Room} {s : State} {m : MethodId} {args : Array Value} {below : List Frame} {meth : Method} {c : Code} {G : JG} {D : Nat} {Q : State → Prop}
set_option maxHeartbeats 4000000 in
set_option maxRecDepth 20000 in
theorem K_Po_sail (C : jCx p R s m args meth c G jb_Po_sail 5 D "SluicePit$Pool") (F : jF G = false) (hD : 4 ≤ D) (a0 : Nat) (a1 : Nat) (hp0 : jkd a0 5) (hp1 : jkd a1 1) (M : SM) (X : SM → Prop) (hR : ∀ M', X M' → ∀ (pc : Nat) (ls : List (Option Value)), decode jb_Po_sail pc = .ok (.return_, 1) → Wk p l e R s m args below meth c G 5 Q 0 0 jN0 (jce G M') pc ls []) : J X (f_Po_sail a0 a1 M) (Wk p l e R s m args below meth c G 5 Q 0 0 jN0 (jce G M) 0 [some (.ref a0), some (.ref a1), none, none, none] []) := by
  unfold f_Po_sail
  refine J_mono (w_iconst_0 C (jd jdt_Po_sail 0 rfl)) ?_
  refine J_mono (w_istore_n (ls' := [some (.ref a0), some (.ref a1), some (.int 0), none, none]) C (jd jdt_Po_sail 1 rfl) (by decide) rfl rfl) ?_
  have L2 : ∀ (y0 : Nat) (y1 : Nat) (hy0 : jkd y0 5) (hy1 : jkd y1 1) (n : Nat) (x2 : Int32) (M : SM), J (fun (q16 : SM) => Wk p l e R s m args below meth c G 5 Q 0 0 jN0 (jce G q16) 99 [none, none, none, none, none] []) (lp_Po_sail_2 y0 y1 n x2 M) (Wk p l e R s m args below meth c G 5 Q 0 0 jN0 (jce G M) 2 [some (.ref y0), some (.ref y1), some (.int x2), none, none] []) := by
    intro y0 y1 hy0 hy1 n
    induction n with
    | zero => intro x2 M; exact J_none
    | succ n ih =>
      intro x2 M
      unfold lp_Po_sail_2
      refine J_mono (w_iload_n C (jd jdt_Po_sail 2 rfl) rfl) ?_
      refine J_mono (w_aload_n C (jd jdt_Po_sail 3 rfl) rfl) ?_
      refine J_mono (jg_Po_48 C hy1 (jd jdt_Po_sail 4 rfl)) ?_
      refine J_mono (jg_Po_51 C (jkf_1_11 hy1) (jd jdt_Po_sail 5 rfl)) ?_
      refine J_br (w_icmp_ge C (jd jdt_Po_sail 6 rfl) rfl) (fun h1 => J_pos h1 ?_) (fun h1 => J_neg h1 ?_)
      · refine J_mono (w_aload_n C (jd jdt_Po_sail 7 rfl) rfl) ?_
        refine J_mono (jg_Po_15 C hy0 (jd jdt_Po_sail 8 rfl)) ?_
        refine J_mono (w_iload_n C (jd jdt_Po_sail 9 rfl) rfl) ?_
        refine J_bind (fun q2 hq2 => ?_)
        refine J_mono (jc_Po_40 C (C_Sp_at l G F (jpf y0 1) x2 (jkf_5_1 hy0) M hq2) rfl (Nat.le_trans (Nat.le_of_ble_eq_true rfl : 1 + 1 ≤ 4) hD) (jd jdt_Po_sail 10 rfl)) ?_
        refine J_mono (w_istore_n (ls' := [some (.ref y0), some (.ref y1), some (.int x2), some (.int q2), none]) C (jd jdt_Po_sail 11 rfl) (by decide) rfl rfl) ?_
        refine J_mono (w_aload_n C (jd jdt_Po_sail 12 rfl) rfl) ?_
        refine J_mono (w_aload_n C (jd jdt_Po_sail 13 rfl) rfl) ?_
        refine J_mono (w_iload_n C (jd jdt_Po_sail 14 rfl) rfl) ?_
        refine J_bind (fun q3 hq3 => ?_)
        refine J_mono (jc_Po_156 C hy0 (C_Po_isAground l G F y0 y1 x2 hy0 hy1 M hq3) rfl (Nat.le_trans (Nat.le_of_ble_eq_true rfl : 3 + 1 ≤ 4) hD) (jd jdt_Po_sail 15 rfl)) ?_
        refine J_seq (fun (q4 : Int32) => Wk p l e R s m args below meth c G 5 Q 0 0 jN0 (jce G M) 45 [some (.ref y0), some (.ref y1), some (.int x2), some (.int q2), none] [.int q4]) ?_ (fun q4 hq4 => ?_)
        · refine J_br (w_if_ne (y := 0) C (jd jdt_Po_sail 16 rfl) rfl) (fun h5 => J_pos h5 ?_) (fun h5 => J_neg h5 ?_)
          · refine J_mono (w_aload_n C (jd jdt_Po_sail 17 rfl) rfl) ?_
            refine J_mono (w_aload_n C (jd jdt_Po_sail 18 rfl) rfl) ?_
            refine J_mono (w_iload_n C (jd jdt_Po_sail 19 rfl) rfl) ?_
            refine J_bind (fun q6 hq6 => ?_)
            refine J_mono (jc_Po_159 C hy0 (C_Po_isLast l G F y0 y1 x2 hy0 hy1 M hq6) rfl (Nat.le_trans (Nat.le_of_ble_eq_true rfl : 2 + 1 ≤ 4) hD) (jd jdt_Po_sail 20 rfl)) ?_
            refine J_br (w_if_ne (y := 0) C (jd jdt_Po_sail 21 rfl) rfl) (fun h7 => J_pos h7 ?_) (fun h7 => J_neg h7 ?_)
            · refine J_mono (w_iconst_1 C (jd jdt_Po_sail 22 rfl)) ?_
              refine J_mono (w_goto C (jd jdt_Po_sail 23 rfl) rfl) ?_
              exact J_some (fun hx => Wk_sb hx ⟨rfl, rfl, rfl, rfl, trivial⟩)
            · refine J_mono (w_iconst_0 C (jd jdt_Po_sail 24 rfl)) ?_
              exact J_some (fun hx => Wk_sb hx ⟨rfl, rfl, rfl, rfl, trivial⟩)
          · refine J_mono (w_iconst_0 C (jd jdt_Po_sail 24 rfl)) ?_
            exact J_some (fun hx => Wk_sb hx ⟨rfl, rfl, rfl, rfl, trivial⟩)
        · refine J_mono (w_istore (ls' := [some (.ref y0), some (.ref y1), some (.int x2), some (.int q2), some (.int q4)]) C (jd jdt_Po_sail 25 rfl) (by decide) rfl rfl) ?_
          refine J_mono (w_iload C (jd jdt_Po_sail 26 rfl) rfl) ?_
          refine J_seq (fun (q8 : SM) => Wk p l e R s m args below meth c G 5 Q 0 0 jN0 (jce G q8) 93 [some (.ref y0), some (.ref y1), some (.int x2), none, none] []) ?_ (fun q8 hq8 => ?_)
          · refine J_br (w_if_eq (y := 0) C (jd jdt_Po_sail 27 rfl) rfl) (fun h9 => J_pos h9 ?_) (fun h9 => J_neg h9 ?_)
            · exact J_some (fun hx => Wk_sb hx ⟨rfl, rfl, rfl, trivial⟩)
            · refine J_mono (w_aload_n C (jd jdt_Po_sail 28 rfl) rfl) ?_
              refine J_mono (w_aload_n C (jd jdt_Po_sail 29 rfl) rfl) ?_
              refine J_mono (w_iload_n C (jd jdt_Po_sail 30 rfl) rfl) ?_
              refine J_bind (fun q10 hq10 => ?_)
              refine J_mono (jc_Po_135 C hy0 (C_Po_isShut l G F y0 y1 q2 hy0 hy1 M hq10) rfl (Nat.le_trans (Nat.le_of_ble_eq_true rfl : 2 + 1 ≤ 4) hD) (jd jdt_Po_sail 31 rfl)) ?_
              refine J_br (w_if_ne (y := 0) C (jd jdt_Po_sail 32 rfl) rfl) (fun h11 => J_pos h11 ?_) (fun h11 => J_neg h11 ?_)
              · refine J_mono (w_aload_n C (jd jdt_Po_sail 33 rfl) rfl) ?_
                refine J_mono (jg_Po_9 C hy0 (jd jdt_Po_sail 34 rfl)) ?_
                refine J_mono (w_iload_n C (jd jdt_Po_sail 35 rfl) rfl) ?_
                refine J_mono (w_iconst_1 C (jd jdt_Po_sail 36 rfl)) ?_
                refine J_mono (w_iadd C (jd jdt_Po_sail 37 rfl)) ?_
                refine J_bind (fun q12 hq12 => ?_)
                refine J_mono (jc_Po_40 C (C_Sp_at l G F (jpf y0 0) (q2 + 1) (jkf_5_0 hy0) M hq12) rfl (Nat.le_trans (Nat.le_of_ble_eq_true rfl : 1 + 1 ≤ 4) hD) (jd jdt_Po_sail 38 rfl)) ?_
                refine J_mono (w_aload_n C (jd jdt_Po_sail 39 rfl) rfl) ?_
                refine J_mono (jg_Po_48 C hy1 (jd jdt_Po_sail 40 rfl)) ?_
                refine J_mono (w_iload_n C (jd jdt_Po_sail 41 rfl) rfl) ?_
                refine J_bind (fun q13 hq13 => ?_)
                refine J_mono (jc_Po_147 C (jkf_1_11 hy1) (C_St_amountOf l G F (jpf y1 11) x2 (jkf_1_11 hy1) M hq13) rfl (Nat.le_trans (Nat.le_of_ble_eq_true rfl : 2 + 1 ≤ 4) hD) (jd jdt_Po_sail 42 rfl)) ?_
                refine J_br (w_icmp_lt C (jd jdt_Po_sail 43 rfl) rfl) (fun h14 => J_pos h14 ?_) (fun h14 => J_neg h14 ?_)
                · exact J_some (fun hx => Wk_sb hx ⟨rfl, rfl, rfl, trivial⟩)
                · refine J_mono (w_aload_n C (jd jdt_Po_sail 44 rfl) rfl) ?_
                  refine J_mono (jg_Po_15 C hy0 (jd jdt_Po_sail 45 rfl)) ?_
                  refine J_mono (w_iload_n C (jd jdt_Po_sail 46 rfl) rfl) ?_
                  refine J_mono (w_iload_n C (jd jdt_Po_sail 47 rfl) rfl) ?_
                  refine J_mono (w_iconst_1 C (jd jdt_Po_sail 48 rfl)) ?_
                  refine J_mono (w_iadd C (jd jdt_Po_sail 49 rfl)) ?_
                  refine J_bind (fun q15 hq15 => ?_)
                  refine J_mono (jc_Po_44 C (C_Sp_put l G F (jpf y0 1) x2 (q2 + 1) (jkf_5_1 hy0) M hq15) rfl (Nat.le_trans (Nat.le_of_ble_eq_true rfl : 1 + 1 ≤ 4) hD) (jd jdt_Po_sail 50 rfl)) ?_
                  exact J_some (fun hx => Wk_sb hx ⟨rfl, rfl, rfl, trivial⟩)
              · exact J_some (fun hx => Wk_sb hx ⟨rfl, rfl, rfl, trivial⟩)
          · refine J_mono (w_iinc (v := x2 + 1) (ls' := [some (.ref y0), some (.ref y1), some (.int (x2 + 1)), none, none]) C (jd jdt_Po_sail 51 rfl) rfl rfl (by decide) rfl rfl) ?_
            refine J_mono (w_goto C (jd jdt_Po_sail 52 rfl) rfl) ?_
            exact J_sub (ih (x2 + 1) q8) ⟨rfl, rfl, rfl, trivial⟩
      · exact J_some (fun hx => Wk_sb hx trivial)
  refine J_seq (fun (q16 : SM) => Wk p l e R s m args below meth c G 5 Q 0 0 jN0 (jce G q16) 99 [none, none, none, none, none] []) (J_sub (L2 a0 a1 hp0 hp1 jfuel 0 M) ⟨rfl, rfl, rfl, trivial⟩) (fun q16 hq16 => ?_)
  exact J_some (fun hx => hR q16 hx _ _ (jd jdt_Po_sail 53 rfl))
end
theorem C_Po_sail (l : Launch) (G : JG) (F : jF G = false) (a0 : Nat) (a1 : Nat) (hp0 : jkd a0 5) (hp1 : jkd a1 1) (M : SM) {q : SM} (hf : f_Po_sail a0 a1 M = some q) : jMet l jy_Po_sail jb_Po_sail 5 none 4 0 0 G [.ref a0, .ref a1] jN0 (jce G M) none jN0 (jce G q) :=
  j_met jo_Po_sail (by decide) (Nat.le_of_ble_eq_true rfl) (fun p e s m args below meth c C hr hm => K_Po_sail C F (Nat.le_refl _) a0 a1 hp0 hp1 M (fun t => t = q) (fun M' hX pc ls hd => by cases hX; exact w_vret C hr hd) _ hf rfl)
def f_Po_play (a0 : Nat) (a1 : Nat) (a2 : Int32) (M : SM) : Option SM := (f_Po_bow a0 a1 a2 M).bind fun q1 => (f_Po_flow a0 a1 q1).bind fun q2 => (f_Po_runOut a0 ((q2.1 a1 1) - 1) q2).bind fun q3 => (f_Po_drink a0 a1 q3).bind fun q4 => (f_Po_spill a0 a1 q4).bind fun q5 => (f_Po_sail a0 a1 q5).bind fun q6 => some q6
section
variable {p : Program} {l : Launch} {e : Env} {R : Room} {s : State} {m : MethodId} {args : Array Value} {below : List Frame} {meth : Method} {c : Code} {G : JG} {D : Nat} {Q : State → Prop}
set_option maxHeartbeats 4000000 in
set_option maxRecDepth 20000 in
theorem K_Po_play (C : jCx p R s m args meth c G jb_Po_play 3 D "SluicePit$Pool") (F : jF G = false) (hD : 8 ≤ D) (a0 : Nat) (a1 : Nat) (a2 : Int32) (hp0 : jkd a0 5) (hp1 : jkd a1 1) (M : SM) (X : SM → Prop) (hR : ∀ M', X M' → ∀ (pc : Nat) (ls : List (Option Value)), decode jb_Po_play pc = .ok (.return_, 1) → Wk p l e R s m args below meth c G 3 Q 0 0 jN0 (jce G M') pc ls []) : J X (f_Po_play a0 a1 a2 M) (Wk p l e R s m args below meth c G 3 Q 0 0 jN0 (jce G M) 0 [some (.ref a0), some (.ref a1), some (.int a2)] []) := by
  unfold f_Po_play
  refine J_mono (w_aload_n C (jd jdt_Po_play 0 rfl) rfl) ?_
  refine J_mono (w_aload_n C (jd jdt_Po_play 1 rfl) rfl) ?_
  refine J_mono (w_iload_n C (jd jdt_Po_play 2 rfl) rfl) ?_
  refine J_bind (fun q1 hq1 => ?_)
  refine J_mono (jc_Po_87 C hp0 (C_Po_bow l G F a0 a1 a2 hp0 hp1 M hq1) rfl (Nat.le_trans (Nat.le_of_ble_eq_true rfl : 4 + 1 ≤ 8) hD) (jd jdt_Po_play 3 rfl)) ?_
  refine J_mono (w_aload_n C (jd jdt_Po_play 4 rfl) rfl) ?_
  refine J_mono (w_aload_n C (jd jdt_Po_play 5 rfl) rfl) ?_
  refine J_bind (fun q2 hq2 => ?_)
  refine J_mono (jc_Po_91 C hp0 (C_Po_flow l G F a0 a1 hp0 hp1 q1 hq2) rfl (Nat.le_trans (Nat.le_of_ble_eq_true rfl : 7 + 1 ≤ 8) hD) (jd jdt_Po_play 6 rfl)) ?_
  refine J_mono (w_aload_n C (jd jdt_Po_play 7 rfl) rfl) ?_
  refine J_mono (w_aload_n C (jd jdt_Po_play 8 rfl) rfl) ?_
  refine J_mono (jg_Po_34 C hp1 (jd jdt_Po_play 9 rfl)) ?_
  refine J_mono (w_iconst_1 C (jd jdt_Po_play 10 rfl)) ?_
  refine J_mono (w_isub C (jd jdt_Po_play 11 rfl)) ?_
  refine J_bind (fun q3 hq3 => ?_)
  refine J_mono (jc_Po_95 C hp0 (C_Po_runOut l G F a0 ((q2.1 a1 1) - 1) hp0 q2 hq3) rfl (Nat.le_trans (Nat.le_of_ble_eq_true rfl : 2 + 1 ≤ 8) hD) (jd jdt_Po_play 12 rfl)) ?_
  refine J_mono (w_aload_n C (jd jdt_Po_play 13 rfl) rfl) ?_
  refine J_mono (w_aload_n C (jd jdt_Po_play 14 rfl) rfl) ?_
  refine J_bind (fun q4 hq4 => ?_)
  refine J_mono (jc_Po_99 C hp0 (C_Po_drink l G F a0 a1 hp0 hp1 q3 hq4) rfl (Nat.le_trans (Nat.le_of_ble_eq_true rfl : 7 + 1 ≤ 8) hD) (jd jdt_Po_play 15 rfl)) ?_
  refine J_mono (w_aload_n C (jd jdt_Po_play 16 rfl) rfl) ?_
  refine J_mono (w_aload_n C (jd jdt_Po_play 17 rfl) rfl) ?_
  refine J_bind (fun q5 hq5 => ?_)
  refine J_mono (jc_Po_102 C hp0 (C_Po_spill l G F a0 a1 hp0 hp1 q4 hq5) rfl (Nat.le_trans (Nat.le_of_ble_eq_true rfl : 7 + 1 ≤ 8) hD) (jd jdt_Po_play 18 rfl)) ?_
  refine J_mono (w_aload_n C (jd jdt_Po_play 19 rfl) rfl) ?_
  refine J_mono (w_aload_n C (jd jdt_Po_play 20 rfl) rfl) ?_
  refine J_bind (fun q6 hq6 => ?_)
  refine J_mono (jc_Po_105 C hp0 (C_Po_sail l G F a0 a1 hp0 hp1 q5 hq6) rfl (Nat.le_trans (Nat.le_of_ble_eq_true rfl : 4 + 1 ≤ 8) hD) (jd jdt_Po_play 21 rfl)) ?_
  exact J_some (fun hx => hR q6 hx _ _ (jd jdt_Po_play 22 rfl))
end
theorem C_Po_play (l : Launch) (G : JG) (F : jF G = false) (a0 : Nat) (a1 : Nat) (a2 : Int32) (hp0 : jkd a0 5) (hp1 : jkd a1 1) (M : SM) {q : SM} (hf : f_Po_play a0 a1 a2 M = some q) : jMet l jy_Po_play jb_Po_play 3 none 8 0 0 G [.ref a0, .ref a1, .int a2] jN0 (jce G M) none jN0 (jce G q) :=
  j_met jo_Po_play (by decide) (Nat.le_of_ble_eq_true rfl) (fun p e s m args below meth c C hr hm => K_Po_play C F (Nat.le_refl _) a0 a1 a2 hp0 hp1 M (fun t => t = q) (fun M' hX pc ls hd => by cases hX; exact w_vret C hr hd) _ hf rfl)
def lp_Ru_playAll_14 (y0 : Nat) (y1 : Nat) (y2 : Nat) : Nat → Int32 → SM → Option (SM)
  | 0, _, _ => none
  | n + 1, x3, M => if 60 < x3 then (some M) else ((f_Po_play y2 y1 x3 M).bind fun q4 => (f_Ru_keep y0 y1 y2 x3 q4).bind fun q5 => lp_Ru_playAll_14 y0 y1 y2 n (x3 + 1) q5)
def f_Ru_playAll (a0 : Nat) (a1 : Nat) (a2 : Nat) (M : SM) : Option SM := (f_Po_beginTold a2 a1 M).bind fun q1 => (f_Ru_keep a0 a1 a2 0 q1).bind fun q2 => (lp_Ru_playAll_14 a0 a1 a2 jfuel 1 q2).bind fun q6 => some q6
section
variable {p : Program} {l : Launch} {e : Env} {R : Room} {s : State} {m : MethodId} {args : Array Value} {below : List Frame} {meth : Method} {c : Code} {G : JG} {D : Nat} {Q : State → Prop}
set_option maxHeartbeats 4000000 in
set_option maxRecDepth 20000 in
theorem K_Ru_playAll (C : jCx p R s m args meth c G jb_Ru_playAll 4 D "SluicePit$Run") (F : jF G = false) (hD : 9 ≤ D) (a0 : Nat) (a1 : Nat) (a2 : Nat) (hp0 : jkd a0 8) (hp1 : jkd a1 1) (hp2 : jkd a2 5) (M : SM) (X : SM → Prop) (hR : ∀ M', X M' → ∀ (pc : Nat) (ls : List (Option Value)), decode jb_Ru_playAll pc = .ok (.return_, 1) → Wk p l e R s m args below meth c G 4 Q 0 0 jN0 (jce G M') pc ls []) : J X (f_Ru_playAll a0 a1 a2 M) (Wk p l e R s m args below meth c G 4 Q 0 0 jN0 (jce G M) 0 [some (.ref a0), some (.ref a1), some (.ref a2), none] []) := by
  unfold f_Ru_playAll
  refine J_mono (w_aload_n C (jd jdt_Ru_playAll 0 rfl) rfl) ?_
  refine J_mono (w_aload_n C (jd jdt_Ru_playAll 1 rfl) rfl) ?_
  refine J_bind (fun q1 hq1 => ?_)
  refine J_mono (jc_Ru_26 C hp2 (C_Po_beginTold l G F a2 a1 hp2 hp1 M hq1) rfl (Nat.le_trans (Nat.le_of_ble_eq_true rfl : 3 + 1 ≤ 9) hD) (jd jdt_Ru_playAll 2 rfl)) ?_
  refine J_mono (w_aload_n C (jd jdt_Ru_playAll 3 rfl) rfl) ?_
  refine J_mono (w_aload_n C (jd jdt_Ru_playAll 4 rfl) rfl) ?_
  refine J_mono (w_aload_n C (jd jdt_Ru_playAll 5 rfl) rfl) ?_
  refine J_mono (w_iconst_0 C (jd jdt_Ru_playAll 6 rfl)) ?_
  refine J_bind (fun q2 hq2 => ?_)
  refine J_mono (jc_Ru_32 C hp0 (C_Ru_keep l G F a0 a1 a2 0 hp0 hp1 hp2 q1 hq2) rfl (Nat.le_trans (Nat.le_of_ble_eq_true rfl : 3 + 1 ≤ 9) hD) (jd jdt_Ru_playAll 7 rfl)) ?_
  refine J_mono (w_iconst_1 C (jd jdt_Ru_playAll 8 rfl)) ?_
  refine J_mono (w_istore_n (ls' := [some (.ref a0), some (.ref a1), some (.ref a2), some (.int 1)]) C (jd jdt_Ru_playAll 9 rfl) (by decide) rfl rfl) ?_
  have L14 : ∀ (y0 : Nat) (y1 : Nat) (y2 : Nat) (hy0 : jkd y0 8) (hy1 : jkd y1 1) (hy2 : jkd y2 5) (n : Nat) (x3 : Int32) (M : SM), J (fun (q6 : SM) => Wk p l e R s m args below meth c G 4 Q 0 0 jN0 (jce G q6) 39 [none, none, none, none] []) (lp_Ru_playAll_14 y0 y1 y2 n x3 M) (Wk p l e R s m args below meth c G 4 Q 0 0 jN0 (jce G M) 14 [some (.ref y0), some (.ref y1), some (.ref y2), some (.int x3)] []) := by
    intro y0 y1 y2 hy0 hy1 hy2 n
    induction n with
    | zero => intro x3 M; exact J_none
    | succ n ih =>
      intro x3 M
      unfold lp_Ru_playAll_14
      refine J_mono (w_iload_n C (jd jdt_Ru_playAll 10 rfl) rfl) ?_
      refine J_mono (w_bipush_60 C (jd jdt_Ru_playAll 11 rfl)) ?_
      refine J_br (w_icmp_gt C (jd jdt_Ru_playAll 12 rfl) rfl) (fun h3 => J_pos h3 ?_) (fun h3 => J_neg h3 ?_)
      · exact J_some (fun hx => Wk_sb hx trivial)
      · refine J_mono (w_aload_n C (jd jdt_Ru_playAll 13 rfl) rfl) ?_
        refine J_mono (w_aload_n C (jd jdt_Ru_playAll 14 rfl) rfl) ?_
        refine J_mono (w_iload_n C (jd jdt_Ru_playAll 15 rfl) rfl) ?_
        refine J_bind (fun q4 hq4 => ?_)
        refine J_mono (jc_Ru_36 C hy2 (C_Po_play l G F y2 y1 x3 hy2 hy1 M hq4) rfl (Nat.le_trans (Nat.le_of_ble_eq_true rfl : 8 + 1 ≤ 9) hD) (jd jdt_Ru_playAll 16 rfl)) ?_
        refine J_mono (w_aload_n C (jd jdt_Ru_playAll 17 rfl) rfl) ?_
        refine J_mono (w_aload_n C (jd jdt_Ru_playAll 18 rfl) rfl) ?_
        refine J_mono (w_aload_n C (jd jdt_Ru_playAll 19 rfl) rfl) ?_
        refine J_mono (w_iload_n C (jd jdt_Ru_playAll 20 rfl) rfl) ?_
        refine J_bind (fun q5 hq5 => ?_)
        refine J_mono (jc_Ru_32 C hy0 (C_Ru_keep l G F y0 y1 y2 x3 hy0 hy1 hy2 q4 hq5) rfl (Nat.le_trans (Nat.le_of_ble_eq_true rfl : 3 + 1 ≤ 9) hD) (jd jdt_Ru_playAll 21 rfl)) ?_
        refine J_mono (w_iinc (v := x3 + 1) (ls' := [some (.ref y0), some (.ref y1), some (.ref y2), some (.int (x3 + 1))]) C (jd jdt_Ru_playAll 22 rfl) rfl rfl (by decide) rfl rfl) ?_
        refine J_mono (w_goto C (jd jdt_Ru_playAll 23 rfl) rfl) ?_
        exact J_sub (ih (x3 + 1) q5) ⟨rfl, rfl, rfl, rfl, trivial⟩
  refine J_seq (fun (q6 : SM) => Wk p l e R s m args below meth c G 4 Q 0 0 jN0 (jce G q6) 39 [none, none, none, none] []) (J_sub (L14 a0 a1 a2 hp0 hp1 hp2 jfuel 1 q2) ⟨rfl, rfl, rfl, rfl, trivial⟩) (fun q6 hq6 => ?_)
  exact J_some (fun hx => hR q6 hx _ _ (jd jdt_Ru_playAll 24 rfl))
end
theorem C_Ru_playAll (l : Launch) (G : JG) (F : jF G = false) (a0 : Nat) (a1 : Nat) (a2 : Nat) (hp0 : jkd a0 8) (hp1 : jkd a1 1) (hp2 : jkd a2 5) (M : SM) {q : SM} (hf : f_Ru_playAll a0 a1 a2 M = some q) : jMet l jy_Ru_playAll jb_Ru_playAll 4 none 9 0 0 G [.ref a0, .ref a1, .ref a2] jN0 (jce G M) none jN0 (jce G q) :=
  j_met jo_Ru_playAll (by decide) (Nat.le_of_ble_eq_true rfl) (fun p e s m args below meth c C hr hm => K_Ru_playAll C F (Nat.le_refl _) a0 a1 a2 hp0 hp1 hp2 M (fun t => t = q) (fun M' hX pc ls hd => by cases hX; exact w_vret C hr hd) _ hf rfl)
def f_Sp_opera (a0 : Nat) (M : SM) : Option (Int32 × SM) := (f_Re_begin (jpf a0 1) M).bind fun q1 => (f_Or_read (jpf a0 3) (jop (q1.1 a0 9)) q1).bind fun q2 => if q2.1 = 0 then (some ((-1), sI q2.2 (jpf a0 0) 1 0)) else ((f_Ac_forget (jpf a0 5) (sI (sI (sI (sI q2.2 (jpf a0 0) 1 0) a0 8 (jopn (jop ((sI q2.2 (jpf a0 0) 1 0).1 a0 9)))) a0 9 (jopn (jop ((sI q2.2 (jpf a0 0) 1 0).1 a0 8)))) a0 11 0)).bind fun q4 => (f_Ru_playAll (jpf a0 6) (jop (q4.1 a0 8)) (jpf a0 7) q4).bind fun q5 => some (q5.1 (jop (q5.1 a0 8)) 0, q5))
section
variable {p : Program} {l : Launch} {e : Env} {R : Room} {s : State} {m : MethodId} {args : Array Value} {below : List Frame} {meth : Method} {c : Code} {G : JG} {D : Nat} {Q : State → Prop}
set_option maxHeartbeats 4000000 in
set_option maxRecDepth 20000 in
theorem K_Sp_opera (C : jCx p R s m args meth c G jb_Sp_opera 3 D "SluicePit") (F : jF G = false) (hD : 53 ≤ D) (a0 : Nat) (hp0 : jkd a0 11) (M : SM) (X : (Int32 × SM) → Prop) (hR : ∀ v M', X (v, M') → ∀ (pc : Nat) (ls : List (Option Value)), decode jb_Sp_opera pc = .ok (.ireturn, 1) → narrow FieldType.int (.int v) = .int v → Wk p l e R s m args below meth c G 3 Q 0 0 jN0 (jce G M') pc ls [.int v]) : J X (f_Sp_opera a0 M) (Wk p l e R s m args below meth c G 3 Q 0 0 jN0 (jce G M) 0 [some (.ref a0), none, none] []) := by
  unfold f_Sp_opera
  refine J_mono (w_aload_n C (jd jdt_Sp_opera 0 rfl) rfl) ?_
  refine J_mono (jg_Sp_21 C hp0 (jd jdt_Sp_opera 1 rfl)) ?_
  refine J_bind (fun q1 hq1 => ?_)
  refine J_mono (jc_Sp_109 C (jkf_11_1 hp0) (C_Re_begin l G F (jpf a0 1) (jkf_11_1 hp0) M hq1) rfl (Nat.le_trans (Nat.le_of_ble_eq_true rfl : 3 + 1 ≤ 53) hD) (jd jdt_Sp_opera 2 rfl)) ?_
  refine J_mono (w_aload_n C (jd jdt_Sp_opera 3 rfl) rfl) ?_
  refine J_mono (jg_Sp_49 C hp0 (jd jdt_Sp_opera 4 rfl)) ?_
  refine J_mono (w_aload_n C (jd jdt_Sp_opera 5 rfl) rfl) ?_
  refine J_mono (jg_Sp_41 C hp0 (jd jdt_Sp_opera 6 rfl)) ?_
  refine J_bind (fun q2 hq2 => ?_)
  refine J_mono (jc_Sp_112 C (jkf_11_3 hp0) (C_Or_read l G F (jpf a0 3) (jop (q1.1 a0 9)) (jkf_11_3 hp0) (jop_kd _) q1 hq2) rfl (Nat.le_trans (Nat.le_of_ble_eq_true rfl : 52 + 1 ≤ 53) hD) (jd jdt_Sp_opera 7 rfl)) ?_
  refine J_mono (w_istore_n (ls' := [some (.ref a0), some (.int q2.1), none]) C (jd jdt_Sp_opera 8 rfl) (by decide) rfl rfl) ?_
  refine J_mono (w_aload_n C (jd jdt_Sp_opera 9 rfl) rfl) ?_
  refine J_mono (jg_Sp_12 C hp0 (jd jdt_Sp_opera 10 rfl)) ?_
  refine J_mono (w_iconst_0 C (jd jdt_Sp_opera 11 rfl)) ?_
  refine J_mono (jp_Sp_102 C F (jkf_11_0 hp0) (jd jdt_Sp_opera 12 rfl)) ?_
  refine J_mono (w_iload_n C (jd jdt_Sp_opera 13 rfl) rfl) ?_
  refine J_br (w_if_ne (y := 0) C (jd jdt_Sp_opera 14 rfl) rfl) (fun h3 => J_pos h3 ?_) (fun h3 => J_neg h3 ?_)
  · refine J_mono (w_iconst_m1 C (jd jdt_Sp_opera 15 rfl)) ?_
    exact J_some (fun hx => hR (-1) (sI q2.2 (jpf a0 0) 1 0) hx _ _ (jd jdt_Sp_opera 16 rfl) rfl)
  · refine J_mono (w_aload_n C (jd jdt_Sp_opera 17 rfl) rfl) ?_
    refine J_mono (jg_Sp_37 C hp0 (jd jdt_Sp_opera 18 rfl)) ?_
    refine J_mono (w_astore_n (ls' := [some (.ref a0), some (.int q2.1), some (.ref (jop ((sI q2.2 (jpf a0 0) 1 0).1 a0 8)))]) C (jd jdt_Sp_opera 19 rfl) (by decide) rfl rfl) ?_
    refine J_mono (w_aload_n C (jd jdt_Sp_opera 20 rfl) rfl) ?_
    refine J_mono (w_aload_n C (jd jdt_Sp_opera 21 rfl) rfl) ?_
    refine J_mono (jg_Sp_41 C hp0 (jd jdt_Sp_opera 22 rfl)) ?_
    refine J_mono (jp_Sp_37 C F hp0 (jop_kd _) (jd jdt_Sp_opera 23 rfl)) ?_
    refine J_mono (w_aload_n C (jd jdt_Sp_opera 24 rfl) rfl) ?_
    refine J_mono (w_aload_n C (jd jdt_Sp_opera 25 rfl) rfl) ?_
    refine J_mono (jp_Sp_41 C F hp0 (jop_kd _) (jd jdt_Sp_opera 26 rfl)) ?_
    refine J_mono (w_aload_n C (jd jdt_Sp_opera 27 rfl) rfl) ?_
    refine J_mono (w_iconst_0 C (jd jdt_Sp_opera 28 rfl)) ?_
    refine J_mono (jp_Sp_87 C F hp0 (Or.inl rfl) (jd jdt_Sp_opera 29 rfl)) ?_
    refine J_mono (w_aload_n C (jd jdt_Sp_opera 30 rfl) rfl) ?_
    refine J_mono (jg_Sp_56 C hp0 (jd jdt_Sp_opera 31 rfl)) ?_
    refine J_bind (fun q4 hq4 => ?_)
    refine J_mono (jc_Sp_116 C (jkf_11_5 hp0) (C_Ac_forget l G F (jpf a0 5) (jkf_11_5 hp0) (sI (sI (sI (sI q2.2 (jpf a0 0) 1 0) a0 8 (jopn (jop ((sI q2.2 (jpf a0 0) 1 0).1 a0 9)))) a0 9 (jopn (jop ((sI q2.2 (jpf a0 0) 1 0).1 a0 8)))) a0 11 0) hq4) rfl (Nat.le_trans (Nat.le_of_ble_eq_true rfl : 1 + 1 ≤ 53) hD) (jd jdt_Sp_opera 32 rfl)) ?_
    refine J_mono (w_aload_n C (jd jdt_Sp_opera 33 rfl) rfl) ?_
    refine J_mono (jg_Sp_63 C hp0 (jd jdt_Sp_opera 34 rfl)) ?_
    refine J_mono (w_aload_n C (jd jdt_Sp_opera 35 rfl) rfl) ?_
    refine J_mono (jg_Sp_37 C hp0 (jd jdt_Sp_opera 36 rfl)) ?_
    refine J_mono (w_aload_n C (jd jdt_Sp_opera 37 rfl) rfl) ?_
    refine J_mono (jg_Sp_70 C hp0 (jd jdt_Sp_opera 38 rfl)) ?_
    refine J_bind (fun q5 hq5 => ?_)
    refine J_mono (jc_Sp_119 C (jkf_11_6 hp0) (C_Ru_playAll l G F (jpf a0 6) (jop (q4.1 a0 8)) (jpf a0 7) (jkf_11_6 hp0) (jop_kd _) (jkf_11_7 hp0) q4 hq5) rfl (Nat.le_trans (Nat.le_of_ble_eq_true rfl : 9 + 1 ≤ 53) hD) (jd jdt_Sp_opera 39 rfl)) ?_
    refine J_mono (w_aload_n C (jd jdt_Sp_opera 40 rfl) rfl) ?_
    refine J_mono (jg_Sp_37 C hp0 (jd jdt_Sp_opera 41 rfl)) ?_
    refine J_mono (jg_Sp_123 C (jop_kd _) (jd jdt_Sp_opera 42 rfl)) ?_
    exact J_some (fun hx => hR (q5.1 (jop (q5.1 a0 8)) 0) q5 hx _ _ (jd jdt_Sp_opera 43 rfl) rfl)
end
theorem C_Sp_opera (l : Launch) (G : JG) (F : jF G = false) (a0 : Nat) (hp0 : jkd a0 11) (M : SM) {q : (Int32 × SM)} (hf : f_Sp_opera a0 M = some q) : jMet l jy_Sp_opera jb_Sp_opera 3 (some FieldType.int) 53 0 0 G [.ref a0] jN0 (jce G M) (some (.int q.1)) jN0 (jce G q.2) :=
  j_met jo_Sp_opera (by decide) (Nat.le_of_ble_eq_true rfl) (fun p e s m args below meth c C hr hm => K_Sp_opera C F (Nat.le_refl _) a0 hp0 M (fun t => t = q) (fun v M' hX pc ls hd hn => by cases hX; exact w_iret C hr hn hd) _ hf rfl)
def f_Sp_fault (a0 : Nat) (a1 : Int32) (M : SM) : Option Int32 := if a1 = 0 then (some (M.1 (jpf a0 1) 5)) else (if a1 = 1 then (some (M.1 (jpf a0 1) 6)) else (some (-1)))
section
variable {p : Program} {l : Launch} {e : Env} {R : Room} {s : State} {m : MethodId} {args : Array Value} {below : List Frame} {meth : Method} {c : Code} {G : JG} {D : Nat} {Q : State → Prop}
set_option maxHeartbeats 4000000 in
set_option maxRecDepth 20000 in
theorem K_Sp_fault (C : jCx p R s m args meth c G jb_Sp_fault 2 D "SluicePit") (F : jF G = false) (hD : 1 ≤ D) (a0 : Nat) (a1 : Int32) (hp0 : jkd a0 11) (M : SM) (X : Int32 → Prop) (hR : ∀ v, X v → ∀ (pc : Nat) (ls : List (Option Value)), decode jb_Sp_fault pc = .ok (.ireturn, 1) → narrow FieldType.int (.int v) = .int v → Wk p l e R s m args below meth c G 2 Q 0 0 jN0 (jce G M) pc ls [.int v]) : J X (f_Sp_fault a0 a1 M) (Wk p l e R s m args below meth c G 2 Q 0 0 jN0 (jce G M) 0 [some (.ref a0), some (.int a1)] []) := by
  unfold f_Sp_fault
  refine J_mono (w_iload_n C (jd jdt_Sp_fault 0 rfl) rfl) ?_
  refine J_br (w_if_ne (y := 0) C (jd jdt_Sp_fault 1 rfl) rfl) (fun h1 => J_pos h1 ?_) (fun h1 => J_neg h1 ?_)
  · refine J_mono (w_aload_n C (jd jdt_Sp_fault 2 rfl) rfl) ?_
    refine J_mono (jg_Sp_21 C hp0 (jd jdt_Sp_fault 3 rfl)) ?_
    refine J_mono (jg_Sp_126 C (jkf_11_1 hp0) (jd jdt_Sp_fault 4 rfl)) ?_
    exact J_some (fun hx => hR (M.1 (jpf a0 1) 5) hx _ _ (jd jdt_Sp_fault 5 rfl) rfl)
  · refine J_mono (w_iload_n C (jd jdt_Sp_fault 6 rfl) rfl) ?_
    refine J_mono (w_iconst_1 C (jd jdt_Sp_fault 7 rfl)) ?_
    refine J_br (w_icmp_ne C (jd jdt_Sp_fault 8 rfl) rfl) (fun h2 => J_pos h2 ?_) (fun h2 => J_neg h2 ?_)
    · refine J_mono (w_aload_n C (jd jdt_Sp_fault 9 rfl) rfl) ?_
      refine J_mono (jg_Sp_21 C hp0 (jd jdt_Sp_fault 10 rfl)) ?_
      refine J_mono (jg_Sp_129 C (jkf_11_1 hp0) (jd jdt_Sp_fault 11 rfl)) ?_
      refine J_mono (w_goto C (jd jdt_Sp_fault 12 rfl) rfl) ?_
      exact J_some (fun hx => hR (M.1 (jpf a0 1) 6) hx _ _ (jd jdt_Sp_fault 14 rfl) rfl)
    · refine J_mono (w_iconst_m1 C (jd jdt_Sp_fault 13 rfl)) ?_
      exact J_some (fun hx => hR (-1) hx _ _ (jd jdt_Sp_fault 14 rfl) rfl)
end
theorem C_Sp_fault (l : Launch) (G : JG) (F : jF G = false) (a0 : Nat) (a1 : Int32) (hp0 : jkd a0 11) (M : SM) {q : Int32} (hf : f_Sp_fault a0 a1 M = some q) : jMet l jy_Sp_fault jb_Sp_fault 2 (some FieldType.int) 1 0 0 G [.ref a0, .int a1] jN0 (jce G M) (some (.int q)) jN0 (jce G M) :=
  j_met jo_Sp_fault (by decide) (Nat.le_of_ble_eq_true rfl) (fun p e s m args below meth c C hr hm => K_Sp_fault C F (Nat.le_refl _) a0 a1 hp0 M (fun t => t = q) (fun v hX pc ls hd hn => by cases hX; exact w_iret C hr hn hd) _ hf rfl)
def lp_Op_sluices_4 (y0 : Nat) (M : SM) : Nat → Int32 → Int32 → Option (Int32)
  | 0, _, _ => none
  | n + 1, x1, x2 => if x2 < (M.1 y0 1) then ((f_Sp_at (jpf y0 7) x2 M).bind fun q2 => lp_Op_sluices_4 y0 M n (x1 + q2) (x2 + 1)) else (some x1)
def f_Op_sluices (a0 : Nat) (M : SM) : Option Int32 := (lp_Op_sluices_4 a0 M jfuel 0 0).bind fun q3 => some q3
section
variable {p : Program} {l : Launch} {e : Env} {R : Room} {s : State} {m : MethodId} {args : Array Value} {below : List Frame} {meth : Method} {c : Code} {G : JG} {D : Nat} {Q : State → Prop}
set_option maxHeartbeats 4000000 in
set_option maxRecDepth 20000 in
theorem K_Op_sluices (C : jCx p R s m args meth c G jb_Op_sluices 3 D "SluicePit$Opera") (F : jF G = false) (hD : 2 ≤ D) (a0 : Nat) (hp0 : jkd a0 1) (M : SM) (X : Int32 → Prop) (hR : ∀ v, X v → ∀ (pc : Nat) (ls : List (Option Value)), decode jb_Op_sluices pc = .ok (.ireturn, 1) → narrow FieldType.int (.int v) = .int v → Wk p l e R s m args below meth c G 3 Q 0 0 jN0 (jce G M) pc ls [.int v]) : J X (f_Op_sluices a0 M) (Wk p l e R s m args below meth c G 3 Q 0 0 jN0 (jce G M) 0 [some (.ref a0), none, none] []) := by
  unfold f_Op_sluices
  refine J_mono (w_iconst_0 C (jd jdt_Op_sluices 0 rfl)) ?_
  refine J_mono (w_istore_n (ls' := [some (.ref a0), some (.int 0), none]) C (jd jdt_Op_sluices 1 rfl) (by decide) rfl rfl) ?_
  refine J_mono (w_iconst_0 C (jd jdt_Op_sluices 2 rfl)) ?_
  refine J_mono (w_istore_n (ls' := [some (.ref a0), some (.int 0), some (.int 0)]) C (jd jdt_Op_sluices 3 rfl) (by decide) rfl rfl) ?_
  have L4 : ∀ (y0 : Nat) (hy0 : jkd y0 1) (n : Nat) (x1 : Int32) (x2 : Int32), J (fun (q3 : Int32) => Wk p l e R s m args below meth c G 3 Q 0 0 jN0 (jce G M) 29 [none, some (.int q3), none] []) (lp_Op_sluices_4 y0 M n x1 x2) (Wk p l e R s m args below meth c G 3 Q 0 0 jN0 (jce G M) 4 [some (.ref y0), some (.int x1), some (.int x2)] []) := by
    intro y0 hy0 n
    induction n with
    | zero => intro x1 x2; exact J_none
    | succ n ih =>
      intro x1 x2
      unfold lp_Op_sluices_4
      refine J_mono (w_iload_n C (jd jdt_Op_sluices 4 rfl) rfl) ?_
      refine J_mono (w_aload_n C (jd jdt_Op_sluices 5 rfl) rfl) ?_
      refine J_mono (jg_Op_56 C hy0 (jd jdt_Op_sluices 6 rfl)) ?_
      refine J_br (w_icmp_ge C (jd jdt_Op_sluices 7 rfl) rfl) (fun h1 => J_pos h1 ?_) (fun h1 => J_neg h1 ?_)
      · refine J_mono (w_iload_n C (jd jdt_Op_sluices 8 rfl) rfl) ?_
        refine J_mono (w_aload_n C (jd jdt_Op_sluices 9 rfl) rfl) ?_
        refine J_mono (jg_Op_18 C hy0 (jd jdt_Op_sluices 10 rfl)) ?_
        refine J_mono (w_iload_n C (jd jdt_Op_sluices 11 rfl) rfl) ?_
        refine J_bind (fun q2 hq2 => ?_)
        refine J_mono (jc_Op_77 C (C_Sp_at l G F (jpf y0 7) x2 (jkf_1_7 hy0) M hq2) rfl (Nat.le_trans (Nat.le_of_ble_eq_true rfl : 1 + 1 ≤ 2) hD) (jd jdt_Op_sluices 12 rfl)) ?_
        refine J_mono (w_iadd C (jd jdt_Op_sluices 13 rfl)) ?_
        refine J_mono (w_istore_n (ls' := [some (.ref y0), some (.int (x1 + q2)), some (.int x2)]) C (jd jdt_Op_sluices 14 rfl) (by decide) rfl rfl) ?_
        refine J_mono (w_iinc (v := x2 + 1) (ls' := [some (.ref y0), some (.int (x1 + q2)), some (.int (x2 + 1))]) C (jd jdt_Op_sluices 15 rfl) rfl rfl (by decide) rfl rfl) ?_
        refine J_mono (w_goto C (jd jdt_Op_sluices 16 rfl) rfl) ?_
        exact J_sub (ih (x1 + q2) (x2 + 1)) ⟨rfl, rfl, rfl, trivial⟩
      · exact J_some (fun hx => Wk_sb hx ⟨rfl, trivial⟩)
  refine J_seq (fun (q3 : Int32) => Wk p l e R s m args below meth c G 3 Q 0 0 jN0 (jce G M) 29 [none, some (.int q3), none] []) (J_sub (L4 a0 hp0 jfuel 0 0) ⟨rfl, rfl, rfl, trivial⟩) (fun q3 hq3 => ?_)
  refine J_mono (w_iload_n C (jd jdt_Op_sluices 17 rfl) rfl) ?_
  exact J_some (fun hx => hR q3 hx _ _ (jd jdt_Op_sluices 18 rfl) rfl)
end
theorem C_Op_sluices (l : Launch) (G : JG) (F : jF G = false) (a0 : Nat) (hp0 : jkd a0 1) (M : SM) {q : Int32} (hf : f_Op_sluices a0 M = some q) : jMet l jy_Op_sluices jb_Op_sluices 3 (some FieldType.int) 2 0 0 G [.ref a0] jN0 (jce G M) (some (.int q)) jN0 (jce G M) :=
  j_met jo_Op_sluices (by decide) (Nat.le_of_ble_eq_true rfl) (fun p e s m args below meth c C hr hm => K_Op_sluices C F (Nat.le_refl _) a0 hp0 M (fun t => t = q) (fun v hX pc ls hd hn => by cases hX; exact w_iret C hr hn hd) _ hf rfl)
def f_Pa_size (a0 : Nat) (a1 : Int32) (M : SM) : Option Int32 := (f_Sp_at (jpf a0 1) a1 M).bind fun q1 => some q1
section
variable {p : Program} {l : Launch} {e : Env} {R : Room} {s : State} {m : MethodId} {args : Array Value} {below : List Frame} {meth : Method} {c : Code} {G : JG} {D : Nat} {Q : State → Prop}
set_option maxHeartbeats 4000000 in
set_option maxRecDepth 20000 in
theorem K_Pa_size (C : jCx p R s m args meth c G jb_Pa_size 2 D "SluicePit$Parts") (F : jF G = false) (hD : 2 ≤ D) (a0 : Nat) (a1 : Int32) (hp0 : jkd a0 4) (M : SM) (X : Int32 → Prop) (hR : ∀ v, X v → ∀ (pc : Nat) (ls : List (Option Value)), decode jb_Pa_size pc = .ok (.ireturn, 1) → narrow FieldType.int (.int v) = .int v → Wk p l e R s m args below meth c G 2 Q 0 0 jN0 (jce G M) pc ls [.int v]) : J X (f_Pa_size a0 a1 M) (Wk p l e R s m args below meth c G 2 Q 0 0 jN0 (jce G M) 0 [some (.ref a0), some (.int a1)] []) := by
  unfold f_Pa_size
  refine J_mono (w_aload_n C (jd jdt_Pa_size 0 rfl) rfl) ?_
  refine J_mono (jg_Pa_16 C hp0 (jd jdt_Pa_size 1 rfl)) ?_
  refine J_mono (w_iload_n C (jd jdt_Pa_size 2 rfl) rfl) ?_
  refine J_bind (fun q1 hq1 => ?_)
  refine J_mono (jc_Pa_20 C (C_Sp_at l G F (jpf a0 1) a1 (jkf_4_1 hp0) M hq1) rfl (Nat.le_trans (Nat.le_of_ble_eq_true rfl : 1 + 1 ≤ 2) hD) (jd jdt_Pa_size 3 rfl)) ?_
  exact J_some (fun hx => hR q1 hx _ _ (jd jdt_Pa_size 4 rfl) rfl)
end
theorem C_Pa_size (l : Launch) (G : JG) (F : jF G = false) (a0 : Nat) (a1 : Int32) (hp0 : jkd a0 4) (M : SM) {q : Int32} (hf : f_Pa_size a0 a1 M = some q) : jMet l jy_Pa_size jb_Pa_size 2 (some FieldType.int) 2 0 0 G [.ref a0, .int a1] jN0 (jce G M) (some (.int q)) jN0 (jce G M) :=
  j_met jo_Pa_size (by decide) (Nat.le_of_ble_eq_true rfl) (fun p e s m args below meth c C hr hm => K_Pa_size C F (Nat.le_refl _) a0 a1 hp0 M (fun t => t = q) (fun v hX pc ls hd hn => by cases hX; exact w_iret C hr hn hd) _ hf rfl)
def lp_Pa_longest_4 (y0 : Nat) (y1 : Int32) (M : SM) : Nat → Int32 → Int32 → Option (Int32)
  | 0, _, _ => none
  | n + 1, x2, x3 => if x3 < y1 then ((f_Pa_size y0 x3 M).bind fun q2 => lp_Pa_longest_4 y0 y1 M n (jmax x2 q2) (x3 + 1)) else (some x2)
def f_Pa_longest (a0 : Nat) (a1 : Int32) (M : SM) : Option Int32 := (lp_Pa_longest_4 a0 a1 M jfuel 0 0).bind fun q3 => some q3
section
variable {p : Program} {l : Launch} {e : Env} {R : Room} {s : State} {m : MethodId} {args : Array Value} {below : List Frame} {meth : Method} {c : Code} {G : JG} {D : Nat} {Q : State → Prop}
set_option maxHeartbeats 4000000 in
set_option maxRecDepth 20000 in
theorem K_Pa_longest (C : jCx p R s m args meth c G jb_Pa_longest 4 D "SluicePit$Parts") (F : jF G = false) (hD : 7 ≤ D) (a0 : Nat) (a1 : Int32) (hp0 : jkd a0 4) (M : SM) (X : Int32 → Prop) (hR : ∀ v, X v → ∀ (pc : Nat) (ls : List (Option Value)), decode jb_Pa_longest pc = .ok (.ireturn, 1) → narrow FieldType.int (.int v) = .int v → Wk p l e R s m args below meth c G 4 Q 0 0 jN0 (jce G M) pc ls [.int v]) : J X (f_Pa_longest a0 a1 M) (Wk p l e R s m args below meth c G 4 Q 0 0 jN0 (jce G M) 0 [some (.ref a0), some (.int a1), none, none] []) := by
  unfold f_Pa_longest
  refine J_mono (w_iconst_0 C (jd jdt_Pa_longest 0 rfl)) ?_
  refine J_mono (w_istore_n (ls' := [some (.ref a0), some (.int a1), some (.int 0), none]) C (jd jdt_Pa_longest 1 rfl) (by decide) rfl rfl) ?_
  refine J_mono (w_iconst_0 C (jd jdt_Pa_longest 2 rfl)) ?_
  refine J_mono (w_istore_n (ls' := [some (.ref a0), some (.int a1), some (.int 0), some (.int 0)]) C (jd jdt_Pa_longest 3 rfl) (by decide) rfl rfl) ?_
  have L4 : ∀ (y0 : Nat) (y1 : Int32) (hy0 : jkd y0 4) (n : Nat) (x2 : Int32) (x3 : Int32), J (fun (q3 : Int32) => Wk p l e R s m args below meth c G 4 Q 0 0 jN0 (jce G M) 25 [none, none, some (.int q3), none] []) (lp_Pa_longest_4 y0 y1 M n x2 x3) (Wk p l e R s m args below meth c G 4 Q 0 0 jN0 (jce G M) 4 [some (.ref y0), some (.int y1), some (.int x2), some (.int x3)] []) := by
    intro y0 y1 hy0 n
    induction n with
    | zero => intro x2 x3; exact J_none
    | succ n ih =>
      intro x2 x3
      unfold lp_Pa_longest_4
      refine J_mono (w_iload_n C (jd jdt_Pa_longest 4 rfl) rfl) ?_
      refine J_mono (w_iload_n C (jd jdt_Pa_longest 5 rfl) rfl) ?_
      refine J_br (w_icmp_ge C (jd jdt_Pa_longest 6 rfl) rfl) (fun h1 => J_pos h1 ?_) (fun h1 => J_neg h1 ?_)
      · refine J_mono (w_iload_n C (jd jdt_Pa_longest 7 rfl) rfl) ?_
        refine J_mono (w_aload_n C (jd jdt_Pa_longest 8 rfl) rfl) ?_
        refine J_mono (w_iload_n C (jd jdt_Pa_longest 9 rfl) rfl) ?_
        refine J_bind (fun q2 hq2 => ?_)
        refine J_mono (jc_Pa_44 C hy0 (C_Pa_size l G F y0 x3 hy0 M hq2) rfl (Nat.le_trans (Nat.le_of_ble_eq_true rfl : 2 + 1 ≤ 7) hD) (jd jdt_Pa_longest 10 rfl)) ?_
        refine J_mono (w_mmax C (Nat.zero_le _) (Nat.zero_le _) (Nat.le_of_ble_eq_true rfl) jw_814 (jd jdt_Pa_longest 11 rfl)) ?_
        refine J_mono (w_istore_n (ls' := [some (.ref y0), some (.int y1), some (.int (jmax x2 q2)), some (.int x3)]) C (jd jdt_Pa_longest 12 rfl) (by decide) rfl rfl) ?_
        refine J_mono (w_iinc (v := x3 + 1) (ls' := [some (.ref y0), some (.int y1), some (.int (jmax x2 q2)), some (.int (x3 + 1))]) C (jd jdt_Pa_longest 13 rfl) rfl rfl (by decide) rfl rfl) ?_
        refine J_mono (w_goto C (jd jdt_Pa_longest 14 rfl) rfl) ?_
        exact J_sub (ih (jmax x2 q2) (x3 + 1)) ⟨rfl, rfl, rfl, rfl, trivial⟩
      · exact J_some (fun hx => Wk_sb hx ⟨rfl, trivial⟩)
  refine J_seq (fun (q3 : Int32) => Wk p l e R s m args below meth c G 4 Q 0 0 jN0 (jce G M) 25 [none, none, some (.int q3), none] []) (J_sub (L4 a0 a1 hp0 jfuel 0 0) ⟨rfl, rfl, rfl, rfl, trivial⟩) (fun q3 hq3 => ?_)
  refine J_mono (w_iload_n C (jd jdt_Pa_longest 15 rfl) rfl) ?_
  exact J_some (fun hx => hR q3 hx _ _ (jd jdt_Pa_longest 16 rfl) rfl)
end
theorem C_Pa_longest (l : Launch) (G : JG) (F : jF G = false) (a0 : Nat) (a1 : Int32) (hp0 : jkd a0 4) (M : SM) {q : Int32} (hf : f_Pa_longest a0 a1 M = some q) : jMet l jy_Pa_longest jb_Pa_longest 4 (some FieldType.int) 7 0 0 G [.ref a0, .int a1] jN0 (jce G M) (some (.int q)) jN0 (jce G M) :=
  j_met jo_Pa_longest (by decide) (Nat.le_of_ble_eq_true rfl) (fun p e s m args below meth c C hr hm => K_Pa_longest C F (Nat.le_refl _) a0 a1 hp0 M (fun t => t = q) (fun v hX pc ls hd hn => by cases hX; exact w_iret C hr hn hd) _ hf rfl)
def f_Sp_has (a0 : Nat) (a1 : Int32) (M : SM) : Option Int32 := if a1 = 0 then (some (M.1 (jop (M.1 a0 8)) 1)) else (if a1 = 1 then (some (M.1 (jop (M.1 a0 8)) 4)) else (if a1 = 2 then ((f_Op_sluices (jop (M.1 a0 8)) M).bind fun q4 => some q4) else (if a1 = 3 then (some (M.1 (jpf (jop (M.1 a0 8)) 10) 2)) else (if a1 = 4 then (some (M.1 (jpf (jop (M.1 a0 8)) 11) 2)) else (if a1 = 5 then (some (M.1 (jpf (jop (M.1 a0 8)) 12) 2)) else (if a1 = 6 then (some (M.1 (jop (M.1 a0 8)) 2)) else (if a1 = 7 then (some (M.1 (jop (M.1 a0 8)) 3)) else (if a1 = 8 then ((f_Pa_longest (jpf (jop (M.1 a0 8)) 13) (M.1 (jop (M.1 a0 8)) 4) M).bind fun q11 => some q11) else (if a1 = 9 then (some (M.1 (jpf a0 5) 4)) else (some (-1)))))))))))
section
variable {p : Program} {l : Launch} {e : Env} {R : Room} {s : State} {m : MethodId} {args : Array Value} {below : List Frame} {meth : Method} {c : Code} {G : JG} {D : Nat} {Q : State → Prop}
set_option maxHeartbeats 4000000 in
set_option maxRecDepth 20000 in
theorem K_Sp_has (C : jCx p R s m args meth c G jb_Sp_has 2 D "SluicePit") (F : jF G = false) (hD : 8 ≤ D) (a0 : Nat) (a1 : Int32) (hp0 : jkd a0 11) (M : SM) (X : Int32 → Prop) (hR : ∀ v, X v → ∀ (pc : Nat) (ls : List (Option Value)), decode jb_Sp_has pc = .ok (.ireturn, 1) → narrow FieldType.int (.int v) = .int v → Wk p l e R s m args below meth c G 2 Q 0 0 jN0 (jce G M) pc ls [.int v]) : J X (f_Sp_has a0 a1 M) (Wk p l e R s m args below meth c G 2 Q 0 0 jN0 (jce G M) 0 [some (.ref a0), some (.int a1)] []) := by
  unfold f_Sp_has
  refine J_mono (w_iload_n C (jd jdt_Sp_has 0 rfl) rfl) ?_
  refine J_ite (fun h1 => ?_) (fun h1 => ?_)
  · refine J_mono (w_tsw C h1 (jd jdt_Sp_has 1 rfl) (by decide) (by decide) rfl rfl) ?_
    refine J_mono (w_aload_n C (jd jdt_Sp_has 2 rfl) rfl) ?_
    refine J_mono (jg_Sp_37 C hp0 (jd jdt_Sp_has 3 rfl)) ?_
    refine J_mono (jg_Sp_132 C (jop_kd _) (jd jdt_Sp_has 4 rfl)) ?_
    exact J_some (fun hx => hR (M.1 (jop (M.1 a0 8)) 1) hx _ _ (jd jdt_Sp_has 5 rfl) rfl)
  · refine J_ite (fun h2 => ?_) (fun h2 => ?_)
    · refine J_mono (w_tsw C h2 (jd jdt_Sp_has 1 rfl) (by decide) (by decide) rfl rfl) ?_
      refine J_mono (w_aload_n C (jd jdt_Sp_has 6 rfl) rfl) ?_
      refine J_mono (jg_Sp_37 C hp0 (jd jdt_Sp_has 7 rfl)) ?_
      refine J_mono (jg_Sp_135 C (jop_kd _) (jd jdt_Sp_has 8 rfl)) ?_
      exact J_some (fun hx => hR (M.1 (jop (M.1 a0 8)) 4) hx _ _ (jd jdt_Sp_has 9 rfl) rfl)
    · refine J_ite (fun h3 => ?_) (fun h3 => ?_)
      · refine J_mono (w_tsw C h3 (jd jdt_Sp_has 1 rfl) (by decide) (by decide) rfl rfl) ?_
        refine J_mono (w_aload_n C (jd jdt_Sp_has 10 rfl) rfl) ?_
        refine J_mono (jg_Sp_37 C hp0 (jd jdt_Sp_has 11 rfl)) ?_
        refine J_bind (fun q4 hq4 => ?_)
        refine J_mono (jc_Sp_138 C (jop_kd _) (C_Op_sluices l G F (jop (M.1 a0 8)) (jop_kd _) M hq4) rfl (Nat.le_trans (Nat.le_of_ble_eq_true rfl : 2 + 1 ≤ 8) hD) (jd jdt_Sp_has 12 rfl)) ?_
        exact J_some (fun hx => hR q4 hx _ _ (jd jdt_Sp_has 13 rfl) rfl)
      · refine J_ite (fun h5 => ?_) (fun h5 => ?_)
        · refine J_mono (w_tsw C h5 (jd jdt_Sp_has 1 rfl) (by decide) (by decide) rfl rfl) ?_
          refine J_mono (w_aload_n C (jd jdt_Sp_has 14 rfl) rfl) ?_
          refine J_mono (jg_Sp_37 C hp0 (jd jdt_Sp_has 15 rfl)) ?_
          refine J_mono (jg_Sp_142 C (jop_kd _) (jd jdt_Sp_has 16 rfl)) ?_
          refine J_mono (jg_Sp_146 C (jkf_1_10 (jop_kd _)) (jd jdt_Sp_has 17 rfl)) ?_
          exact J_some (fun hx => hR (M.1 (jpf (jop (M.1 a0 8)) 10) 2) hx _ _ (jd jdt_Sp_has 18 rfl) rfl)
        · refine J_ite (fun h6 => ?_) (fun h6 => ?_)
          · refine J_mono (w_tsw C h6 (jd jdt_Sp_has 1 rfl) (by decide) (by decide) rfl rfl) ?_
            refine J_mono (w_aload_n C (jd jdt_Sp_has 19 rfl) rfl) ?_
            refine J_mono (jg_Sp_37 C hp0 (jd jdt_Sp_has 20 rfl)) ?_
            refine J_mono (jg_Sp_151 C (jop_kd _) (jd jdt_Sp_has 21 rfl)) ?_
            refine J_mono (jg_Sp_146 C (jkf_1_11 (jop_kd _)) (jd jdt_Sp_has 22 rfl)) ?_
            exact J_some (fun hx => hR (M.1 (jpf (jop (M.1 a0 8)) 11) 2) hx _ _ (jd jdt_Sp_has 23 rfl) rfl)
          · refine J_ite (fun h7 => ?_) (fun h7 => ?_)
            · refine J_mono (w_tsw C h7 (jd jdt_Sp_has 1 rfl) (by decide) (by decide) rfl rfl) ?_
              refine J_mono (w_aload_n C (jd jdt_Sp_has 24 rfl) rfl) ?_
              refine J_mono (jg_Sp_37 C hp0 (jd jdt_Sp_has 25 rfl)) ?_
              refine J_mono (jg_Sp_154 C (jop_kd _) (jd jdt_Sp_has 26 rfl)) ?_
              refine J_mono (jg_Sp_146 C (jkf_1_12 (jop_kd _)) (jd jdt_Sp_has 27 rfl)) ?_
              exact J_some (fun hx => hR (M.1 (jpf (jop (M.1 a0 8)) 12) 2) hx _ _ (jd jdt_Sp_has 28 rfl) rfl)
            · refine J_ite (fun h8 => ?_) (fun h8 => ?_)
              · refine J_mono (w_tsw C h8 (jd jdt_Sp_has 1 rfl) (by decide) (by decide) rfl rfl) ?_
                refine J_mono (w_aload_n C (jd jdt_Sp_has 29 rfl) rfl) ?_
                refine J_mono (jg_Sp_37 C hp0 (jd jdt_Sp_has 30 rfl)) ?_
                refine J_mono (jg_Sp_157 C (jop_kd _) (jd jdt_Sp_has 31 rfl)) ?_
                exact J_some (fun hx => hR (M.1 (jop (M.1 a0 8)) 2) hx _ _ (jd jdt_Sp_has 32 rfl) rfl)
              · refine J_ite (fun h9 => ?_) (fun h9 => ?_)
                · refine J_mono (w_tsw C h9 (jd jdt_Sp_has 1 rfl) (by decide) (by decide) rfl rfl) ?_
                  refine J_mono (w_aload_n C (jd jdt_Sp_has 33 rfl) rfl) ?_
                  refine J_mono (jg_Sp_37 C hp0 (jd jdt_Sp_has 34 rfl)) ?_
                  refine J_mono (jg_Sp_160 C (jop_kd _) (jd jdt_Sp_has 35 rfl)) ?_
                  exact J_some (fun hx => hR (M.1 (jop (M.1 a0 8)) 3) hx _ _ (jd jdt_Sp_has 36 rfl) rfl)
                · refine J_ite (fun h10 => ?_) (fun h10 => ?_)
                  · refine J_mono (w_tsw C h10 (jd jdt_Sp_has 1 rfl) (by decide) (by decide) rfl rfl) ?_
                    refine J_mono (w_aload_n C (jd jdt_Sp_has 37 rfl) rfl) ?_
                    refine J_mono (jg_Sp_37 C hp0 (jd jdt_Sp_has 38 rfl)) ?_
                    refine J_mono (jg_Sp_163 C (jop_kd _) (jd jdt_Sp_has 39 rfl)) ?_
                    refine J_mono (w_aload_n C (jd jdt_Sp_has 40 rfl) rfl) ?_
                    refine J_mono (jg_Sp_37 C hp0 (jd jdt_Sp_has 41 rfl)) ?_
                    refine J_mono (jg_Sp_135 C (jop_kd _) (jd jdt_Sp_has 42 rfl)) ?_
                    refine J_bind (fun q11 hq11 => ?_)
                    refine J_mono (jc_Sp_167 C (jkf_1_13 (jop_kd _)) (C_Pa_longest l G F (jpf (jop (M.1 a0 8)) 13) (M.1 (jop (M.1 a0 8)) 4) (jkf_1_13 (jop_kd _)) M hq11) rfl (Nat.le_trans (Nat.le_of_ble_eq_true rfl : 7 + 1 ≤ 8) hD) (jd jdt_Sp_has 43 rfl)) ?_
                    exact J_some (fun hx => hR q11 hx _ _ (jd jdt_Sp_has 44 rfl) rfl)
                  · refine J_ite (fun h12 => ?_) (fun h12 => ?_)
                    · refine J_mono (w_tsw C h12 (jd jdt_Sp_has 1 rfl) (by decide) (by decide) rfl rfl) ?_
                      refine J_mono (w_aload_n C (jd jdt_Sp_has 45 rfl) rfl) ?_
                      refine J_mono (jg_Sp_56 C hp0 (jd jdt_Sp_has 46 rfl)) ?_
                      refine J_mono (jg_Sp_173 C (jkf_11_5 hp0) (jd jdt_Sp_has 47 rfl)) ?_
                      exact J_some (fun hx => hR (M.1 (jpf a0 5) 4) hx _ _ (jd jdt_Sp_has 48 rfl) rfl)
                    · refine J_mono (w_tswd C (jd jdt_Sp_has 1 rfl) (fun k9 kA kB => by have kC : k9 = 0 ∨ k9 = 1 ∨ k9 = 2 ∨ k9 = 3 ∨ k9 = 4 ∨ k9 = 5 ∨ k9 = 6 ∨ k9 = 7 ∨ k9 = 8 ∨ k9 = 9 := (by omega); rcases kC with rfl|rfl|rfl|rfl|rfl|rfl|rfl|rfl|rfl|rfl <;> first | exact h1 | exact h2 | exact h3 | exact h5 | exact h6 | exact h7 | exact h8 | exact h9 | exact h10 | exact h12) (by decide) (by decide) rfl) ?_
                      refine J_mono (w_iconst_m1 C (jd jdt_Sp_has 49 rfl)) ?_
                      exact J_some (fun hx => hR (-1) hx _ _ (jd jdt_Sp_has 50 rfl) rfl)
end
theorem C_Sp_has (l : Launch) (G : JG) (F : jF G = false) (a0 : Nat) (a1 : Int32) (hp0 : jkd a0 11) (M : SM) {q : Int32} (hf : f_Sp_has a0 a1 M = some q) : jMet l jy_Sp_has jb_Sp_has 2 (some FieldType.int) 8 0 0 G [.ref a0, .int a1] jN0 (jce G M) (some (.int q)) jN0 (jce G M) :=
  j_met jo_Sp_has (by decide) (Nat.le_of_ble_eq_true rfl) (fun p e s m args below meth c C hr hm => K_Sp_has C F (Nat.le_refl _) a0 a1 hp0 M (fun t => t = q) (fun v hX pc ls hd hn => by cases hX; exact w_iret C hr hn hd) _ hf rfl)
def f_Sp_letter (a0 : Nat) (a1 : Int32) (a2 : Int32) (a3 : Int32) (M : SM) : Option Int32 := if a1 < 0 then (some (-1)) else (if a1 < 3 then (if a2 < 0 then (some (-1)) else ((f_Op_named (jop (M.1 a0 8)) a1 M).bind fun q4 => if a2 < q4 then (if a3 < 0 then (some (-1)) else (if a3 < 6 then ((f_Sp_nameRow a1 a2).bind fun q8 => (f_Sp_cellOf (jpf (jop (M.1 a0 8)) 9) q8 a3 M).bind fun q9 => if q9 = 0 then (some 0) else (some ((q9 - 97) + 1))) else (some (-1)))) else (some (-1)))) else (some (-1)))
section
variable {p : Program} {l : Launch} {e : Env} {R : Room} {s : State} {m : MethodId} {args : Array Value} {below : List Frame} {meth : Method} {c : Code} {G : JG} {D : Nat} {Q : State → Prop}
set_option maxHeartbeats 4000000 in
set_option maxRecDepth 20000 in
theorem K_Sp_letter (C : jCx p R s m args meth c G jb_Sp_letter 5 D "SluicePit") (F : jF G = false) (hD : 2 ≤ D) (a0 : Nat) (a1 : Int32) (a2 : Int32) (a3 : Int32) (hp0 : jkd a0 11) (M : SM) (X : Int32 → Prop) (hR : ∀ v, X v → ∀ (pc : Nat) (ls : List (Option Value)), decode jb_Sp_letter pc = .ok (.ireturn, 1) → narrow FieldType.int (.int v) = .int v → Wk p l e R s m args below meth c G 5 Q 0 0 jN0 (jce G M) pc ls [.int v]) : J X (f_Sp_letter a0 a1 a2 a3 M) (Wk p l e R s m args below meth c G 5 Q 0 0 jN0 (jce G M) 0 [some (.ref a0), some (.int a1), some (.int a2), some (.int a3), none] []) := by
  unfold f_Sp_letter
  refine J_mono (w_iload_n C (jd jdt_Sp_letter 0 rfl) rfl) ?_
  refine J_br (w_if_lt (y := 0) C (jd jdt_Sp_letter 1 rfl) rfl) (fun h1 => J_pos h1 ?_) (fun h1 => J_neg h1 ?_)
  · refine J_mono (w_iconst_m1 C (jd jdt_Sp_letter 13 rfl)) ?_
    exact J_some (fun hx => hR (-1) hx _ _ (jd jdt_Sp_letter 14 rfl) rfl)
  · refine J_mono (w_iload_n C (jd jdt_Sp_letter 2 rfl) rfl) ?_
    refine J_mono (w_iconst_3 C (jd jdt_Sp_letter 3 rfl)) ?_
    refine J_br (w_icmp_ge C (jd jdt_Sp_letter 4 rfl) rfl) (fun h2 => J_pos h2 ?_) (fun h2 => J_neg h2 ?_)
    · refine J_mono (w_iload_n C (jd jdt_Sp_letter 5 rfl) rfl) ?_
      refine J_br (w_if_lt (y := 0) C (jd jdt_Sp_letter 6 rfl) rfl) (fun h3 => J_pos h3 ?_) (fun h3 => J_neg h3 ?_)
      · refine J_mono (w_iconst_m1 C (jd jdt_Sp_letter 13 rfl)) ?_
        exact J_some (fun hx => hR (-1) hx _ _ (jd jdt_Sp_letter 14 rfl) rfl)
      · refine J_mono (w_iload_n C (jd jdt_Sp_letter 7 rfl) rfl) ?_
        refine J_mono (w_aload_n C (jd jdt_Sp_letter 8 rfl) rfl) ?_
        refine J_mono (jg_Sp_37 C hp0 (jd jdt_Sp_letter 9 rfl)) ?_
        refine J_mono (w_iload_n C (jd jdt_Sp_letter 10 rfl) rfl) ?_
        refine J_bind (fun q4 hq4 => ?_)
        refine J_mono (jc_Sp_174 C (jop_kd _) (C_Op_named l G F (jop (M.1 a0 8)) a1 (jop_kd _) M hq4) rfl (Nat.le_trans (Nat.le_of_ble_eq_true rfl : 1 + 1 ≤ 2) hD) (jd jdt_Sp_letter 11 rfl)) ?_
        refine J_br (w_icmp_lt C (jd jdt_Sp_letter 12 rfl) rfl) (fun h5 => J_pos h5 ?_) (fun h5 => J_neg h5 ?_)
        · refine J_mono (w_iload_n C (jd jdt_Sp_letter 15 rfl) rfl) ?_
          refine J_br (w_if_lt (y := 0) C (jd jdt_Sp_letter 16 rfl) rfl) (fun h6 => J_pos h6 ?_) (fun h6 => J_neg h6 ?_)
          · refine J_mono (w_iconst_m1 C (jd jdt_Sp_letter 20 rfl)) ?_
            exact J_some (fun hx => hR (-1) hx _ _ (jd jdt_Sp_letter 21 rfl) rfl)
          · refine J_mono (w_iload_n C (jd jdt_Sp_letter 17 rfl) rfl) ?_
            refine J_mono (w_bipush_6 C (jd jdt_Sp_letter 18 rfl)) ?_
            refine J_br (w_icmp_lt C (jd jdt_Sp_letter 19 rfl) rfl) (fun h7 => J_pos h7 ?_) (fun h7 => J_neg h7 ?_)
            · refine J_mono (w_aload_n C (jd jdt_Sp_letter 22 rfl) rfl) ?_
              refine J_mono (jg_Sp_37 C hp0 (jd jdt_Sp_letter 23 rfl)) ?_
              refine J_mono (jg_Sp_177 C (jop_kd _) (jd jdt_Sp_letter 24 rfl)) ?_
              refine J_mono (w_iload_n C (jd jdt_Sp_letter 25 rfl) rfl) ?_
              refine J_mono (w_iload_n C (jd jdt_Sp_letter 26 rfl) rfl) ?_
              refine J_bind (fun q8 hq8 => ?_)
              refine J_mono (jc_Sp_181 C (C_Sp_nameRow l G F a1 a2 M hq8) rfl (Nat.le_trans (Nat.le_of_ble_eq_true rfl : 1 + 1 ≤ 2) hD) (jd jdt_Sp_letter 27 rfl)) ?_
              refine J_mono (w_iload_n C (jd jdt_Sp_letter 28 rfl) rfl) ?_
              refine J_bind (fun q9 hq9 => ?_)
              refine J_mono (jc_Sp_185 C (C_Sp_cellOf l G F (jpf (jop (M.1 a0 8)) 9) q8 a3 (jkf_1_9 (jop_kd _)) M hq9) rfl (Nat.le_trans (Nat.le_of_ble_eq_true rfl : 1 + 1 ≤ 2) hD) (jd jdt_Sp_letter 29 rfl)) ?_
              refine J_mono (w_istore (ls' := [some (.ref a0), some (.int a1), some (.int a2), some (.int a3), some (.int q9)]) C (jd jdt_Sp_letter 30 rfl) (by decide) rfl rfl) ?_
              refine J_mono (w_iload C (jd jdt_Sp_letter 31 rfl) rfl) ?_
              refine J_br (w_if_ne (y := 0) C (jd jdt_Sp_letter 32 rfl) rfl) (fun h10 => J_pos h10 ?_) (fun h10 => J_neg h10 ?_)
              · refine J_mono (w_iconst_0 C (jd jdt_Sp_letter 33 rfl)) ?_
                refine J_mono (w_goto C (jd jdt_Sp_letter 34 rfl) rfl) ?_
                exact J_some (fun hx => hR 0 hx _ _ (jd jdt_Sp_letter 40 rfl) rfl)
              · refine J_mono (w_iload C (jd jdt_Sp_letter 35 rfl) rfl) ?_
                refine J_mono (w_bipush_97 C (jd jdt_Sp_letter 36 rfl)) ?_
                refine J_mono (w_isub C (jd jdt_Sp_letter 37 rfl)) ?_
                refine J_mono (w_iconst_1 C (jd jdt_Sp_letter 38 rfl)) ?_
                refine J_mono (w_iadd C (jd jdt_Sp_letter 39 rfl)) ?_
                exact J_some (fun hx => hR ((q9 - 97) + 1) hx _ _ (jd jdt_Sp_letter 40 rfl) rfl)
            · refine J_mono (w_iconst_m1 C (jd jdt_Sp_letter 20 rfl)) ?_
              exact J_some (fun hx => hR (-1) hx _ _ (jd jdt_Sp_letter 21 rfl) rfl)
        · refine J_mono (w_iconst_m1 C (jd jdt_Sp_letter 13 rfl)) ?_
          exact J_some (fun hx => hR (-1) hx _ _ (jd jdt_Sp_letter 14 rfl) rfl)
    · refine J_mono (w_iconst_m1 C (jd jdt_Sp_letter 13 rfl)) ?_
      exact J_some (fun hx => hR (-1) hx _ _ (jd jdt_Sp_letter 14 rfl) rfl)
end
theorem C_Sp_letter (l : Launch) (G : JG) (F : jF G = false) (a0 : Nat) (a1 : Int32) (a2 : Int32) (a3 : Int32) (hp0 : jkd a0 11) (M : SM) {q : Int32} (hf : f_Sp_letter a0 a1 a2 a3 M = some q) : jMet l jy_Sp_letter jb_Sp_letter 5 (some FieldType.int) 2 0 0 G [.ref a0, .int a1, .int a2, .int a3] jN0 (jce G M) (some (.int q)) jN0 (jce G M) :=
  j_met jo_Sp_letter (by decide) (Nat.le_of_ble_eq_true rfl) (fun p e s m args below meth c C hr hm => K_Sp_letter C F (Nat.le_refl _) a0 a1 a2 a3 hp0 M (fun t => t = q) (fun v hX pc ls hd hn => by cases hX; exact w_iret C hr hn hd) _ hf rfl)
def f_Sp_isDesk (a0 : Nat) (a1 : Int32) (M : SM) : Option Int32 := if a1 < 0 then (some 0) else (if a1 < (M.1 (jop (M.1 a0 8)) 4) then (some 1) else (some 0))
section
variable {p : Program} {l : Launch} {e : Env} {R : Room} {s : State} {m : MethodId} {args : Array Value} {below : List Frame} {meth : Method} {c : Code} {G : JG} {D : Nat} {Q : State → Prop}
set_option maxHeartbeats 4000000 in
set_option maxRecDepth 20000 in
theorem K_Sp_isDesk (C : jCx p R s m args meth c G jb_Sp_isDesk 2 D "SluicePit") (F : jF G = false) (hD : 1 ≤ D) (a0 : Nat) (a1 : Int32) (hp0 : jkd a0 11) (M : SM) (X : Int32 → Prop) (hR : ∀ v, X v → ∀ (pc : Nat) (ls : List (Option Value)), decode jb_Sp_isDesk pc = .ok (.ireturn, 1) → narrow FieldType.boolean (.int v) = .int v → Wk p l e R s m args below meth c G 2 Q 0 0 jN0 (jce G M) pc ls [.int v]) : J X (f_Sp_isDesk a0 a1 M) (Wk p l e R s m args below meth c G 2 Q 0 0 jN0 (jce G M) 0 [some (.ref a0), some (.int a1)] []) := by
  unfold f_Sp_isDesk
  refine J_mono (w_iload_n C (jd jdt_Sp_isDesk 0 rfl) rfl) ?_
  refine J_br (w_if_lt (y := 0) C (jd jdt_Sp_isDesk 1 rfl) rfl) (fun h1 => J_pos h1 ?_) (fun h1 => J_neg h1 ?_)
  · refine J_mono (w_iconst_0 C (jd jdt_Sp_isDesk 9 rfl)) ?_
    exact J_some (fun hx => hR 0 hx _ _ (jd jdt_Sp_isDesk 10 rfl) rfl)
  · refine J_mono (w_iload_n C (jd jdt_Sp_isDesk 2 rfl) rfl) ?_
    refine J_mono (w_aload_n C (jd jdt_Sp_isDesk 3 rfl) rfl) ?_
    refine J_mono (jg_Sp_37 C hp0 (jd jdt_Sp_isDesk 4 rfl)) ?_
    refine J_mono (jg_Sp_135 C (jop_kd _) (jd jdt_Sp_isDesk 5 rfl)) ?_
    refine J_br (w_icmp_ge C (jd jdt_Sp_isDesk 6 rfl) rfl) (fun h2 => J_pos h2 ?_) (fun h2 => J_neg h2 ?_)
    · refine J_mono (w_iconst_1 C (jd jdt_Sp_isDesk 7 rfl)) ?_
      refine J_mono (w_goto C (jd jdt_Sp_isDesk 8 rfl) rfl) ?_
      exact J_some (fun hx => hR 1 hx _ _ (jd jdt_Sp_isDesk 10 rfl) rfl)
    · refine J_mono (w_iconst_0 C (jd jdt_Sp_isDesk 9 rfl)) ?_
      exact J_some (fun hx => hR 0 hx _ _ (jd jdt_Sp_isDesk 10 rfl) rfl)
end
theorem C_Sp_isDesk (l : Launch) (G : JG) (F : jF G = false) (a0 : Nat) (a1 : Int32) (hp0 : jkd a0 11) (M : SM) {q : Int32} (hf : f_Sp_isDesk a0 a1 M = some q) : jMet l jy_Sp_isDesk jb_Sp_isDesk 2 (some FieldType.boolean) 1 0 0 G [.ref a0, .int a1] jN0 (jce G M) (some (.int q)) jN0 (jce G M) :=
  j_met jo_Sp_isDesk (by decide) (Nat.le_of_ble_eq_true rfl) (fun p e s m args below meth c C hr hm => K_Sp_isDesk C F (Nat.le_refl _) a0 a1 hp0 M (fun t => t = q) (fun v hX pc ls hd hn => by cases hX; exact w_iret C hr hn hd) _ hf rfl)
def f_Sp_desk (a0 : Nat) (a1 : Int32) (a2 : Int32) (M : SM) : Option Int32 := (f_Sp_isDesk a0 a1 M).bind fun q1 => if q1 = 0 then (some (-1)) else (if a2 < (-1) then (some (-1)) else (if 60 < a2 then (some (-1)) else (if a2 = (-1) then ((f_Pa_size (jpf (jop (M.1 a0 8)) 13) a1 M).bind fun q6 => some q6) else (if a2 = 0 then ((f_Sp_at (jpf (jop (M.1 a0 8)) 8) a1 M).bind fun q8 => some q8) else ((f_Pa_act (jpf (jop (M.1 a0 8)) 13) a1 a2 M).bind fun q9 => some q9)))))
section
variable {p : Program} {l : Launch} {e : Env} {R : Room} {s : State} {m : MethodId} {args : Array Value} {below : List Frame} {meth : Method} {c : Code} {G : JG} {D : Nat} {Q : State → Prop}
set_option maxHeartbeats 4000000 in
set_option maxRecDepth 20000 in
theorem K_Sp_desk (C : jCx p R s m args meth c G jb_Sp_desk 3 D "SluicePit") (F : jF G = false) (hD : 3 ≤ D) (a0 : Nat) (a1 : Int32) (a2 : Int32) (hp0 : jkd a0 11) (M : SM) (X : Int32 → Prop) (hR : ∀ v, X v → ∀ (pc : Nat) (ls : List (Option Value)), decode jb_Sp_desk pc = .ok (.ireturn, 1) → narrow FieldType.int (.int v) = .int v → Wk p l e R s m args below meth c G 3 Q 0 0 jN0 (jce G M) pc ls [.int v]) : J X (f_Sp_desk a0 a1 a2 M) (Wk p l e R s m args below meth c G 3 Q 0 0 jN0 (jce G M) 0 [some (.ref a0), some (.int a1), some (.int a2)] []) := by
  unfold f_Sp_desk
  refine J_mono (w_aload_n C (jd jdt_Sp_desk 0 rfl) rfl) ?_
  refine J_mono (w_iload_n C (jd jdt_Sp_desk 1 rfl) rfl) ?_
  refine J_bind (fun q1 hq1 => ?_)
  refine J_mono (jc_Sp_189 C hp0 (C_Sp_isDesk l G F a0 a1 hp0 M hq1) rfl (Nat.le_trans (Nat.le_of_ble_eq_true rfl : 1 + 1 ≤ 3) hD) (jd jdt_Sp_desk 2 rfl)) ?_
  refine J_br (w_if_eq (y := 0) C (jd jdt_Sp_desk 3 rfl) rfl) (fun h2 => J_pos h2 ?_) (fun h2 => J_neg h2 ?_)
  · refine J_mono (w_iconst_m1 C (jd jdt_Sp_desk 10 rfl)) ?_
    exact J_some (fun hx => hR (-1) hx _ _ (jd jdt_Sp_desk 11 rfl) rfl)
  · refine J_mono (w_iload_n C (jd jdt_Sp_desk 4 rfl) rfl) ?_
    refine J_mono (w_iconst_m1 C (jd jdt_Sp_desk 5 rfl)) ?_
    refine J_br (w_icmp_lt C (jd jdt_Sp_desk 6 rfl) rfl) (fun h3 => J_pos h3 ?_) (fun h3 => J_neg h3 ?_)
    · refine J_mono (w_iconst_m1 C (jd jdt_Sp_desk 10 rfl)) ?_
      exact J_some (fun hx => hR (-1) hx _ _ (jd jdt_Sp_desk 11 rfl) rfl)
    · refine J_mono (w_iload_n C (jd jdt_Sp_desk 7 rfl) rfl) ?_
      refine J_mono (w_bipush_60 C (jd jdt_Sp_desk 8 rfl)) ?_
      refine J_br (w_icmp_le C (jd jdt_Sp_desk 9 rfl) rfl) (fun h4 => J_pos h4 ?_) (fun h4 => J_neg h4 ?_)
      · refine J_mono (w_iconst_m1 C (jd jdt_Sp_desk 10 rfl)) ?_
        exact J_some (fun hx => hR (-1) hx _ _ (jd jdt_Sp_desk 11 rfl) rfl)
      · refine J_mono (w_iload_n C (jd jdt_Sp_desk 12 rfl) rfl) ?_
        refine J_mono (w_iconst_m1 C (jd jdt_Sp_desk 13 rfl)) ?_
        refine J_br (w_icmp_ne C (jd jdt_Sp_desk 14 rfl) rfl) (fun h5 => J_pos h5 ?_) (fun h5 => J_neg h5 ?_)
        · refine J_mono (w_aload_n C (jd jdt_Sp_desk 15 rfl) rfl) ?_
          refine J_mono (jg_Sp_37 C hp0 (jd jdt_Sp_desk 16 rfl)) ?_
          refine J_mono (jg_Sp_163 C (jop_kd _) (jd jdt_Sp_desk 17 rfl)) ?_
          refine J_mono (w_iload_n C (jd jdt_Sp_desk 18 rfl) rfl) ?_
          refine J_bind (fun q6 hq6 => ?_)
          refine J_mono (jc_Sp_193 C (jkf_1_13 (jop_kd _)) (C_Pa_size l G F (jpf (jop (M.1 a0 8)) 13) a1 (jkf_1_13 (jop_kd _)) M hq6) rfl (Nat.le_trans (Nat.le_of_ble_eq_true rfl : 2 + 1 ≤ 3) hD) (jd jdt_Sp_desk 19 rfl)) ?_
          exact J_some (fun hx => hR q6 hx _ _ (jd jdt_Sp_desk 20 rfl) rfl)
        · refine J_mono (w_iload_n C (jd jdt_Sp_desk 21 rfl) rfl) ?_
          refine J_br (w_if_ne (y := 0) C (jd jdt_Sp_desk 22 rfl) rfl) (fun h7 => J_pos h7 ?_) (fun h7 => J_neg h7 ?_)
          · refine J_mono (w_aload_n C (jd jdt_Sp_desk 23 rfl) rfl) ?_
            refine J_mono (jg_Sp_37 C hp0 (jd jdt_Sp_desk 24 rfl)) ?_
            refine J_mono (jg_Sp_195 C (jop_kd _) (jd jdt_Sp_desk 25 rfl)) ?_
            refine J_mono (w_iload_n C (jd jdt_Sp_desk 26 rfl) rfl) ?_
            refine J_bind (fun q8 hq8 => ?_)
            refine J_mono (jc_Sp_198 C (C_Sp_at l G F (jpf (jop (M.1 a0 8)) 8) a1 (jkf_1_8 (jop_kd _)) M hq8) rfl (Nat.le_trans (Nat.le_of_ble_eq_true rfl : 1 + 1 ≤ 3) hD) (jd jdt_Sp_desk 27 rfl)) ?_
            refine J_mono (w_goto C (jd jdt_Sp_desk 28 rfl) rfl) ?_
            exact J_some (fun hx => hR q8 hx _ _ (jd jdt_Sp_desk 35 rfl) rfl)
          · refine J_mono (w_aload_n C (jd jdt_Sp_desk 29 rfl) rfl) ?_
            refine J_mono (jg_Sp_37 C hp0 (jd jdt_Sp_desk 30 rfl)) ?_
            refine J_mono (jg_Sp_163 C (jop_kd _) (jd jdt_Sp_desk 31 rfl)) ?_
            refine J_mono (w_iload_n C (jd jdt_Sp_desk 32 rfl) rfl) ?_
            refine J_mono (w_iload_n C (jd jdt_Sp_desk 33 rfl) rfl) ?_
            refine J_bind (fun q9 hq9 => ?_)
            refine J_mono (jc_Sp_202 C (jkf_1_13 (jop_kd _)) (C_Pa_act l G F (jpf (jop (M.1 a0 8)) 13) a1 a2 (jkf_1_13 (jop_kd _)) M hq9) rfl (Nat.le_trans (Nat.le_of_ble_eq_true rfl : 2 + 1 ≤ 3) hD) (jd jdt_Sp_desk 34 rfl)) ?_
            exact J_some (fun hx => hR q9 hx _ _ (jd jdt_Sp_desk 35 rfl) rfl)
end
theorem C_Sp_desk (l : Launch) (G : JG) (F : jF G = false) (a0 : Nat) (a1 : Int32) (a2 : Int32) (hp0 : jkd a0 11) (M : SM) {q : Int32} (hf : f_Sp_desk a0 a1 a2 M = some q) : jMet l jy_Sp_desk jb_Sp_desk 3 (some FieldType.int) 3 0 0 G [.ref a0, .int a1, .int a2] jN0 (jce G M) (some (.int q)) jN0 (jce G M) :=
  j_met jo_Sp_desk (by decide) (Nat.le_of_ble_eq_true rfl) (fun p e s m args below meth c C hr hm => K_Sp_desk C F (Nat.le_refl _) a0 a1 a2 hp0 M (fun t => t = q) (fun v hX pc ls hd hn => by cases hX; exact w_iret C hr hn hd) _ hf rfl)
def f_Sp_isCell (a0 : Nat) (a1 : Int32) (M : SM) : Option Int32 := if a1 < 0 then (some 0) else (if a1 < (M.1 (jop (M.1 a0 8)) 1) then (some 1) else (some 0))
section
variable {p : Program} {l : Launch} {e : Env} {R : Room} {s : State} {m : MethodId} {args : Array Value} {below : List Frame} {meth : Method} {c : Code} {G : JG} {D : Nat} {Q : State → Prop}
set_option maxHeartbeats 4000000 in
set_option maxRecDepth 20000 in
theorem K_Sp_isCell (C : jCx p R s m args meth c G jb_Sp_isCell 2 D "SluicePit") (F : jF G = false) (hD : 1 ≤ D) (a0 : Nat) (a1 : Int32) (hp0 : jkd a0 11) (M : SM) (X : Int32 → Prop) (hR : ∀ v, X v → ∀ (pc : Nat) (ls : List (Option Value)), decode jb_Sp_isCell pc = .ok (.ireturn, 1) → narrow FieldType.boolean (.int v) = .int v → Wk p l e R s m args below meth c G 2 Q 0 0 jN0 (jce G M) pc ls [.int v]) : J X (f_Sp_isCell a0 a1 M) (Wk p l e R s m args below meth c G 2 Q 0 0 jN0 (jce G M) 0 [some (.ref a0), some (.int a1)] []) := by
  unfold f_Sp_isCell
  refine J_mono (w_iload_n C (jd jdt_Sp_isCell 0 rfl) rfl) ?_
  refine J_br (w_if_lt (y := 0) C (jd jdt_Sp_isCell 1 rfl) rfl) (fun h1 => J_pos h1 ?_) (fun h1 => J_neg h1 ?_)
  · refine J_mono (w_iconst_0 C (jd jdt_Sp_isCell 9 rfl)) ?_
    exact J_some (fun hx => hR 0 hx _ _ (jd jdt_Sp_isCell 10 rfl) rfl)
  · refine J_mono (w_iload_n C (jd jdt_Sp_isCell 2 rfl) rfl) ?_
    refine J_mono (w_aload_n C (jd jdt_Sp_isCell 3 rfl) rfl) ?_
    refine J_mono (jg_Sp_37 C hp0 (jd jdt_Sp_isCell 4 rfl)) ?_
    refine J_mono (jg_Sp_132 C (jop_kd _) (jd jdt_Sp_isCell 5 rfl)) ?_
    refine J_br (w_icmp_ge C (jd jdt_Sp_isCell 6 rfl) rfl) (fun h2 => J_pos h2 ?_) (fun h2 => J_neg h2 ?_)
    · refine J_mono (w_iconst_1 C (jd jdt_Sp_isCell 7 rfl)) ?_
      refine J_mono (w_goto C (jd jdt_Sp_isCell 8 rfl) rfl) ?_
      exact J_some (fun hx => hR 1 hx _ _ (jd jdt_Sp_isCell 10 rfl) rfl)
    · refine J_mono (w_iconst_0 C (jd jdt_Sp_isCell 9 rfl)) ?_
      exact J_some (fun hx => hR 0 hx _ _ (jd jdt_Sp_isCell 10 rfl) rfl)
end
theorem C_Sp_isCell (l : Launch) (G : JG) (F : jF G = false) (a0 : Nat) (a1 : Int32) (hp0 : jkd a0 11) (M : SM) {q : Int32} (hf : f_Sp_isCell a0 a1 M = some q) : jMet l jy_Sp_isCell jb_Sp_isCell 2 (some FieldType.boolean) 1 0 0 G [.ref a0, .int a1] jN0 (jce G M) (some (.int q)) jN0 (jce G M) :=
  j_met jo_Sp_isCell (by decide) (Nat.le_of_ble_eq_true rfl) (fun p e s m args below meth c C hr hm => K_Sp_isCell C F (Nat.le_refl _) a0 a1 hp0 M (fun t => t = q) (fun v hX pc ls hd hn => by cases hX; exact w_iret C hr hn hd) _ hf rfl)
def f_Sp_isBar (a0 : Int32) : Option Int32 := if a0 < 0 then (some 0) else (if 60 < a0 then (some 0) else (some 1))
section
variable {p : Program} {l : Launch} {e : Env} {R : Room} {s : State} {m : MethodId} {args : Array Value} {below : List Frame} {meth : Method} {c : Code} {G : JG} {D : Nat} {Q : State → Prop}
set_option maxHeartbeats 4000000 in
set_option maxRecDepth 20000 in
theorem K_Sp_isBar (C : jCx p R s m args meth c G jb_Sp_isBar 1 D "SluicePit") (F : jF G = false) (hD : 1 ≤ D) (a0 : Int32)  (M : SM) (X : Int32 → Prop) (hR : ∀ v, X v → ∀ (pc : Nat) (ls : List (Option Value)), decode jb_Sp_isBar pc = .ok (.ireturn, 1) → narrow FieldType.boolean (.int v) = .int v → Wk p l e R s m args below meth c G 1 Q 0 0 jN0 (jce G M) pc ls [.int v]) : J X (f_Sp_isBar a0) (Wk p l e R s m args below meth c G 1 Q 0 0 jN0 (jce G M) 0 [some (.int a0)] []) := by
  unfold f_Sp_isBar
  refine J_mono (w_iload_n C (jd jdt_Sp_isBar 0 rfl) rfl) ?_
  refine J_br (w_if_lt (y := 0) C (jd jdt_Sp_isBar 1 rfl) rfl) (fun h1 => J_pos h1 ?_) (fun h1 => J_neg h1 ?_)
  · refine J_mono (w_iconst_0 C (jd jdt_Sp_isBar 7 rfl)) ?_
    exact J_some (fun hx => hR 0 hx _ _ (jd jdt_Sp_isBar 8 rfl) rfl)
  · refine J_mono (w_iload_n C (jd jdt_Sp_isBar 2 rfl) rfl) ?_
    refine J_mono (w_bipush_60 C (jd jdt_Sp_isBar 3 rfl)) ?_
    refine J_br (w_icmp_gt C (jd jdt_Sp_isBar 4 rfl) rfl) (fun h2 => J_pos h2 ?_) (fun h2 => J_neg h2 ?_)
    · refine J_mono (w_iconst_0 C (jd jdt_Sp_isBar 7 rfl)) ?_
      exact J_some (fun hx => hR 0 hx _ _ (jd jdt_Sp_isBar 8 rfl) rfl)
    · refine J_mono (w_iconst_1 C (jd jdt_Sp_isBar 5 rfl)) ?_
      refine J_mono (w_goto C (jd jdt_Sp_isBar 6 rfl) rfl) ?_
      exact J_some (fun hx => hR 1 hx _ _ (jd jdt_Sp_isBar 8 rfl) rfl)
end
theorem C_Sp_isBar (l : Launch) (G : JG) (F : jF G = false) (a0 : Int32)  (M : SM) {q : Int32} (hf : f_Sp_isBar a0 = some q) : jMet l jy_Sp_isBar jb_Sp_isBar 1 (some FieldType.boolean) 1 0 0 G [.int a0] jN0 (jce G M) (some (.int q)) jN0 (jce G M) :=
  j_met jo_Sp_isBar (by decide) (Nat.le_of_ble_eq_true rfl) (fun p e s m args below meth c C hr hm => K_Sp_isBar C F (Nat.le_refl _) a0  M (fun t => t = q) (fun v hX pc ls hd hn => by cases hX; exact w_iret C hr hn hd) _ hf rfl)
def f_Ru_water (a0 : Nat) (a1 : Int32) (a2 : Int32) (M : SM) : Option Int32 := (f_Sp_cellOf (jpf a0 0) a1 a2 M).bind fun q1 => some q1
section
variable {p : Program} {l : Launch} {e : Env} {R : Room} {s : State} {m : MethodId} {args : Array Value} {below : List Frame} {meth : Method} {c : Code} {G : JG} {D : Nat} {Q : State → Prop}
set_option maxHeartbeats 4000000 in
set_option maxRecDepth 20000 in
theorem K_Ru_water (C : jCx p R s m args meth c G jb_Ru_water 3 D "SluicePit$Run") (F : jF G = false) (hD : 2 ≤ D) (a0 : Nat) (a1 : Int32) (a2 : Int32) (hp0 : jkd a0 8) (M : SM) (X : Int32 → Prop) (hR : ∀ v, X v → ∀ (pc : Nat) (ls : List (Option Value)), decode jb_Ru_water pc = .ok (.ireturn, 1) → narrow FieldType.int (.int v) = .int v → Wk p l e R s m args below meth c G 3 Q 0 0 jN0 (jce G M) pc ls [.int v]) : J X (f_Ru_water a0 a1 a2 M) (Wk p l e R s m args below meth c G 3 Q 0 0 jN0 (jce G M) 0 [some (.ref a0), some (.int a1), some (.int a2)] []) := by
  unfold f_Ru_water
  refine J_mono (w_aload_n C (jd jdt_Ru_water 0 rfl) rfl) ?_
  refine J_mono (jg_Ru_11 C hp0 (jd jdt_Ru_water 1 rfl)) ?_
  refine J_mono (w_iload_n C (jd jdt_Ru_water 2 rfl) rfl) ?_
  refine J_mono (w_iload_n C (jd jdt_Ru_water 3 rfl) rfl) ?_
  refine J_bind (fun q1 hq1 => ?_)
  refine J_mono (jc_Ru_22 C (C_Sp_cellOf l G F (jpf a0 0) a1 a2 (jkf_8_0 hp0) M hq1) rfl (Nat.le_trans (Nat.le_of_ble_eq_true rfl : 1 + 1 ≤ 2) hD) (jd jdt_Ru_water 4 rfl)) ?_
  exact J_some (fun hx => hR q1 hx _ _ (jd jdt_Ru_water 5 rfl) rfl)
end
theorem C_Ru_water (l : Launch) (G : JG) (F : jF G = false) (a0 : Nat) (a1 : Int32) (a2 : Int32) (hp0 : jkd a0 8) (M : SM) {q : Int32} (hf : f_Ru_water a0 a1 a2 M = some q) : jMet l jy_Ru_water jb_Ru_water 3 (some FieldType.int) 2 0 0 G [.ref a0, .int a1, .int a2] jN0 (jce G M) (some (.int q)) jN0 (jce G M) :=
  j_met jo_Ru_water (by decide) (Nat.le_of_ble_eq_true rfl) (fun p e s m args below meth c C hr hm => K_Ru_water C F (Nat.le_refl _) a0 a1 a2 hp0 M (fun t => t = q) (fun v hX pc ls hd hn => by cases hX; exact w_iret C hr hn hd) _ hf rfl)
def f_Sp_deep (a0 : Nat) (a1 : Int32) (a2 : Int32) (M : SM) : Option Int32 := (f_Sp_isCell a0 a1 M).bind fun q1 => if q1 = 0 then (some (-1)) else ((f_Sp_isBar a2).bind fun q3 => if q3 = 0 then (some (-1)) else ((f_Ru_water (jpf a0 6) a2 a1 M).bind fun q5 => some q5))
section
variable {p : Program} {l : Launch} {e : Env} {R : Room} {s : State} {m : MethodId} {args : Array Value} {below : List Frame} {meth : Method} {c : Code} {G : JG} {D : Nat} {Q : State → Prop}
set_option maxHeartbeats 4000000 in
set_option maxRecDepth 20000 in
theorem K_Sp_deep (C : jCx p R s m args meth c G jb_Sp_deep 3 D "SluicePit") (F : jF G = false) (hD : 3 ≤ D) (a0 : Nat) (a1 : Int32) (a2 : Int32) (hp0 : jkd a0 11) (M : SM) (X : Int32 → Prop) (hR : ∀ v, X v → ∀ (pc : Nat) (ls : List (Option Value)), decode jb_Sp_deep pc = .ok (.ireturn, 1) → narrow FieldType.int (.int v) = .int v → Wk p l e R s m args below meth c G 3 Q 0 0 jN0 (jce G M) pc ls [.int v]) : J X (f_Sp_deep a0 a1 a2 M) (Wk p l e R s m args below meth c G 3 Q 0 0 jN0 (jce G M) 0 [some (.ref a0), some (.int a1), some (.int a2)] []) := by
  unfold f_Sp_deep
  refine J_mono (w_aload_n C (jd jdt_Sp_deep 0 rfl) rfl) ?_
  refine J_mono (w_iload_n C (jd jdt_Sp_deep 1 rfl) rfl) ?_
  refine J_bind (fun q1 hq1 => ?_)
  refine J_mono (jc_Sp_205 C hp0 (C_Sp_isCell l G F a0 a1 hp0 M hq1) rfl (Nat.le_trans (Nat.le_of_ble_eq_true rfl : 1 + 1 ≤ 3) hD) (jd jdt_Sp_deep 2 rfl)) ?_
  refine J_br (w_if_eq (y := 0) C (jd jdt_Sp_deep 3 rfl) rfl) (fun h2 => J_pos h2 ?_) (fun h2 => J_neg h2 ?_)
  · refine J_mono (w_iconst_m1 C (jd jdt_Sp_deep 13 rfl)) ?_
    exact J_some (fun hx => hR (-1) hx _ _ (jd jdt_Sp_deep 14 rfl) rfl)
  · refine J_mono (w_iload_n C (jd jdt_Sp_deep 4 rfl) rfl) ?_
    refine J_bind (fun q3 hq3 => ?_)
    refine J_mono (jc_Sp_208 C (C_Sp_isBar l G F a2 M hq3) rfl (Nat.le_trans (Nat.le_of_ble_eq_true rfl : 1 + 1 ≤ 3) hD) (jd jdt_Sp_deep 5 rfl)) ?_
    refine J_br (w_if_eq (y := 0) C (jd jdt_Sp_deep 6 rfl) rfl) (fun h4 => J_pos h4 ?_) (fun h4 => J_neg h4 ?_)
    · refine J_mono (w_iconst_m1 C (jd jdt_Sp_deep 13 rfl)) ?_
      exact J_some (fun hx => hR (-1) hx _ _ (jd jdt_Sp_deep 14 rfl) rfl)
    · refine J_mono (w_aload_n C (jd jdt_Sp_deep 7 rfl) rfl) ?_
      refine J_mono (jg_Sp_63 C hp0 (jd jdt_Sp_deep 8 rfl)) ?_
      refine J_mono (w_iload_n C (jd jdt_Sp_deep 9 rfl) rfl) ?_
      refine J_mono (w_iload_n C (jd jdt_Sp_deep 10 rfl) rfl) ?_
      refine J_bind (fun q5 hq5 => ?_)
      refine J_mono (jc_Sp_211 C (jkf_11_6 hp0) (C_Ru_water l G F (jpf a0 6) a2 a1 (jkf_11_6 hp0) M hq5) rfl (Nat.le_trans (Nat.le_of_ble_eq_true rfl : 2 + 1 ≤ 3) hD) (jd jdt_Sp_deep 11 rfl)) ?_
      refine J_mono (w_goto C (jd jdt_Sp_deep 12 rfl) rfl) ?_
      exact J_some (fun hx => hR q5 hx _ _ (jd jdt_Sp_deep 14 rfl) rfl)
end
theorem C_Sp_deep (l : Launch) (G : JG) (F : jF G = false) (a0 : Nat) (a1 : Int32) (a2 : Int32) (hp0 : jkd a0 11) (M : SM) {q : Int32} (hf : f_Sp_deep a0 a1 a2 M = some q) : jMet l jy_Sp_deep jb_Sp_deep 3 (some FieldType.int) 3 0 0 G [.ref a0, .int a1, .int a2] jN0 (jce G M) (some (.int q)) jN0 (jce G M) :=
  j_met jo_Sp_deep (by decide) (Nat.le_of_ble_eq_true rfl) (fun p e s m args below meth c C hr hm => K_Sp_deep C F (Nat.le_refl _) a0 a1 a2 hp0 M (fun t => t = q) (fun v hX pc ls hd hn => by cases hX; exact w_iret C hr hn hd) _ hf rfl)
def f_Sp_cell (a0 : Nat) (a1 : Int32) (a2 : Int32) (M : SM) : Option Int32 := (f_Sp_isCell a0 a1 M).bind fun q1 => if q1 = 0 then (some (-1)) else (if a2 = 0 then ((f_Sp_at (jpf (jop (M.1 a0 8)) 5) a1 M).bind fun q4 => some q4) else (if a2 = 1 then ((f_Sp_at (jpf (jop (M.1 a0 8)) 7) a1 M).bind fun q6 => some q6) else (if a2 = 2 then ((f_Sp_at (jpf (jop (M.1 a0 8)) 6) a1 M).bind fun q8 => some q8) else (some (-1)))))
section
variable {p : Program} {l : Launch} {e : Env} {R : Room} {s : State} {m : MethodId} {args : Array Value} {below : List Frame} {meth : Method} {c : Code} {G : JG} {D : Nat} {Q : State → Prop}
set_option maxHeartbeats 4000000 in
set_option maxRecDepth 20000 in
theorem K_Sp_cell (C : jCx p R s m args meth c G jb_Sp_cell 3 D "SluicePit") (F : jF G = false) (hD : 2 ≤ D) (a0 : Nat) (a1 : Int32) (a2 : Int32) (hp0 : jkd a0 11) (M : SM) (X : Int32 → Prop) (hR : ∀ v, X v → ∀ (pc : Nat) (ls : List (Option Value)), decode jb_Sp_cell pc = .ok (.ireturn, 1) → narrow FieldType.int (.int v) = .int v → Wk p l e R s m args below meth c G 3 Q 0 0 jN0 (jce G M) pc ls [.int v]) : J X (f_Sp_cell a0 a1 a2 M) (Wk p l e R s m args below meth c G 3 Q 0 0 jN0 (jce G M) 0 [some (.ref a0), some (.int a1), some (.int a2)] []) := by
  unfold f_Sp_cell
  refine J_mono (w_aload_n C (jd jdt_Sp_cell 0 rfl) rfl) ?_
  refine J_mono (w_iload_n C (jd jdt_Sp_cell 1 rfl) rfl) ?_
  refine J_bind (fun q1 hq1 => ?_)
  refine J_mono (jc_Sp_205 C hp0 (C_Sp_isCell l G F a0 a1 hp0 M hq1) rfl (Nat.le_trans (Nat.le_of_ble_eq_true rfl : 1 + 1 ≤ 2) hD) (jd jdt_Sp_cell 2 rfl)) ?_
  refine J_br (w_if_ne (y := 0) C (jd jdt_Sp_cell 3 rfl) rfl) (fun h2 => J_pos h2 ?_) (fun h2 => J_neg h2 ?_)
  · refine J_mono (w_iconst_m1 C (jd jdt_Sp_cell 4 rfl)) ?_
    exact J_some (fun hx => hR (-1) hx _ _ (jd jdt_Sp_cell 5 rfl) rfl)
  · refine J_mono (w_iload_n C (jd jdt_Sp_cell 6 rfl) rfl) ?_
    refine J_ite (fun h3 => ?_) (fun h3 => ?_)
    · refine J_mono (w_tsw C h3 (jd jdt_Sp_cell 7 rfl) (by decide) (by decide) rfl rfl) ?_
      refine J_mono (w_aload_n C (jd jdt_Sp_cell 8 rfl) rfl) ?_
      refine J_mono (jg_Sp_37 C hp0 (jd jdt_Sp_cell 9 rfl)) ?_
      refine J_mono (jg_Sp_214 C (jop_kd _) (jd jdt_Sp_cell 10 rfl)) ?_
      refine J_mono (w_iload_n C (jd jdt_Sp_cell 11 rfl) rfl) ?_
      refine J_bind (fun q4 hq4 => ?_)
      refine J_mono (jc_Sp_198 C (C_Sp_at l G F (jpf (jop (M.1 a0 8)) 5) a1 (jkf_1_5 (jop_kd _)) M hq4) rfl (Nat.le_trans (Nat.le_of_ble_eq_true rfl : 1 + 1 ≤ 2) hD) (jd jdt_Sp_cell 12 rfl)) ?_
      exact J_some (fun hx => hR q4 hx _ _ (jd jdt_Sp_cell 13 rfl) rfl)
    · refine J_ite (fun h5 => ?_) (fun h5 => ?_)
      · refine J_mono (w_tsw C h5 (jd jdt_Sp_cell 7 rfl) (by decide) (by decide) rfl rfl) ?_
        refine J_mono (w_aload_n C (jd jdt_Sp_cell 14 rfl) rfl) ?_
        refine J_mono (jg_Sp_37 C hp0 (jd jdt_Sp_cell 15 rfl)) ?_
        refine J_mono (jg_Sp_217 C (jop_kd _) (jd jdt_Sp_cell 16 rfl)) ?_
        refine J_mono (w_iload_n C (jd jdt_Sp_cell 17 rfl) rfl) ?_
        refine J_bind (fun q6 hq6 => ?_)
        refine J_mono (jc_Sp_198 C (C_Sp_at l G F (jpf (jop (M.1 a0 8)) 7) a1 (jkf_1_7 (jop_kd _)) M hq6) rfl (Nat.le_trans (Nat.le_of_ble_eq_true rfl : 1 + 1 ≤ 2) hD) (jd jdt_Sp_cell 18 rfl)) ?_
        exact J_some (fun hx => hR q6 hx _ _ (jd jdt_Sp_cell 19 rfl) rfl)
      · refine J_ite (fun h7 => ?_) (fun h7 => ?_)
        · refine J_mono (w_tsw C h7 (jd jdt_Sp_cell 7 rfl) (by decide) (by decide) rfl rfl) ?_
          refine J_mono (w_aload_n C (jd jdt_Sp_cell 20 rfl) rfl) ?_
          refine J_mono (jg_Sp_37 C hp0 (jd jdt_Sp_cell 21 rfl)) ?_
          refine J_mono (jg_Sp_220 C (jop_kd _) (jd jdt_Sp_cell 22 rfl)) ?_
          refine J_mono (w_iload_n C (jd jdt_Sp_cell 23 rfl) rfl) ?_
          refine J_bind (fun q8 hq8 => ?_)
          refine J_mono (jc_Sp_198 C (C_Sp_at l G F (jpf (jop (M.1 a0 8)) 6) a1 (jkf_1_6 (jop_kd _)) M hq8) rfl (Nat.le_trans (Nat.le_of_ble_eq_true rfl : 1 + 1 ≤ 2) hD) (jd jdt_Sp_cell 24 rfl)) ?_
          exact J_some (fun hx => hR q8 hx _ _ (jd jdt_Sp_cell 25 rfl) rfl)
        · refine J_mono (w_tswd C (jd jdt_Sp_cell 7 rfl) (fun k9 kA kB => by have kC : k9 = 0 ∨ k9 = 1 ∨ k9 = 2 := (by omega); rcases kC with rfl|rfl|rfl <;> first | exact h3 | exact h5 | exact h7) (by decide) (by decide) rfl) ?_
          refine J_mono (w_iconst_m1 C (jd jdt_Sp_cell 26 rfl)) ?_
          exact J_some (fun hx => hR (-1) hx _ _ (jd jdt_Sp_cell 27 rfl) rfl)
end
theorem C_Sp_cell (l : Launch) (G : JG) (F : jF G = false) (a0 : Nat) (a1 : Int32) (a2 : Int32) (hp0 : jkd a0 11) (M : SM) {q : Int32} (hf : f_Sp_cell a0 a1 a2 M = some q) : jMet l jy_Sp_cell jb_Sp_cell 3 (some FieldType.int) 2 0 0 G [.ref a0, .int a1, .int a2] jN0 (jce G M) (some (.int q)) jN0 (jce G M) :=
  j_met jo_Sp_cell (by decide) (Nat.le_of_ble_eq_true rfl) (fun p e s m args below meth c C hr hm => K_Sp_cell C F (Nat.le_refl _) a0 a1 a2 hp0 M (fun t => t = q) (fun v hX pc ls hd hn => by cases hX; exact w_iret C hr hn hd) _ hf rfl)
def f_Sp_sums (a0 : Nat) (a1 : Int32) (a2 : Int32) (M : SM) : Option Int32 := if (M.1 (jop (M.1 a0 8)) 1) = 0 then (some (-1)) else ((f_Sp_isBar a1).bind fun q2 => if q2 = 0 then (some (-1)) else (if a2 < 0 then (some (-1)) else (if a2 < 6 then ((f_Ru_measure (jpf a0 6) a1 a2 M).bind fun q6 => some q6) else (some (-1)))))
section
variable {p : Program} {l : Launch} {e : Env} {R : Room} {s : State} {m : MethodId} {args : Array Value} {below : List Frame} {meth : Method} {c : Code} {G : JG} {D : Nat} {Q : State → Prop}
set_option maxHeartbeats 4000000 in
set_option maxRecDepth 20000 in
theorem K_Sp_sums (C : jCx p R s m args meth c G jb_Sp_sums 3 D "SluicePit") (F : jF G = false) (hD : 3 ≤ D) (a0 : Nat) (a1 : Int32) (a2 : Int32) (hp0 : jkd a0 11) (M : SM) (X : Int32 → Prop) (hR : ∀ v, X v → ∀ (pc : Nat) (ls : List (Option Value)), decode jb_Sp_sums pc = .ok (.ireturn, 1) → narrow FieldType.int (.int v) = .int v → Wk p l e R s m args below meth c G 3 Q 0 0 jN0 (jce G M) pc ls [.int v]) : J X (f_Sp_sums a0 a1 a2 M) (Wk p l e R s m args below meth c G 3 Q 0 0 jN0 (jce G M) 0 [some (.ref a0), some (.int a1), some (.int a2)] []) := by
  unfold f_Sp_sums
  refine J_mono (w_aload_n C (jd jdt_Sp_sums 0 rfl) rfl) ?_
  refine J_mono (jg_Sp_37 C hp0 (jd jdt_Sp_sums 1 rfl)) ?_
  refine J_mono (jg_Sp_132 C (jop_kd _) (jd jdt_Sp_sums 2 rfl)) ?_
  refine J_br (w_if_eq (y := 0) C (jd jdt_Sp_sums 3 rfl) rfl) (fun h1 => J_pos h1 ?_) (fun h1 => J_neg h1 ?_)
  · refine J_mono (w_iconst_m1 C (jd jdt_Sp_sums 12 rfl)) ?_
    exact J_some (fun hx => hR (-1) hx _ _ (jd jdt_Sp_sums 13 rfl) rfl)
  · refine J_mono (w_iload_n C (jd jdt_Sp_sums 4 rfl) rfl) ?_
    refine J_bind (fun q2 hq2 => ?_)
    refine J_mono (jc_Sp_208 C (C_Sp_isBar l G F a1 M hq2) rfl (Nat.le_trans (Nat.le_of_ble_eq_true rfl : 1 + 1 ≤ 3) hD) (jd jdt_Sp_sums 5 rfl)) ?_
    refine J_br (w_if_eq (y := 0) C (jd jdt_Sp_sums 6 rfl) rfl) (fun h3 => J_pos h3 ?_) (fun h3 => J_neg h3 ?_)
    · refine J_mono (w_iconst_m1 C (jd jdt_Sp_sums 12 rfl)) ?_
      exact J_some (fun hx => hR (-1) hx _ _ (jd jdt_Sp_sums 13 rfl) rfl)
    · refine J_mono (w_iload_n C (jd jdt_Sp_sums 7 rfl) rfl) ?_
      refine J_br (w_if_lt (y := 0) C (jd jdt_Sp_sums 8 rfl) rfl) (fun h4 => J_pos h4 ?_) (fun h4 => J_neg h4 ?_)
      · refine J_mono (w_iconst_m1 C (jd jdt_Sp_sums 12 rfl)) ?_
        exact J_some (fun hx => hR (-1) hx _ _ (jd jdt_Sp_sums 13 rfl) rfl)
      · refine J_mono (w_iload_n C (jd jdt_Sp_sums 9 rfl) rfl) ?_
        refine J_mono (w_bipush_6 C (jd jdt_Sp_sums 10 rfl)) ?_
        refine J_br (w_icmp_lt C (jd jdt_Sp_sums 11 rfl) rfl) (fun h5 => J_pos h5 ?_) (fun h5 => J_neg h5 ?_)
        · refine J_mono (w_aload_n C (jd jdt_Sp_sums 14 rfl) rfl) ?_
          refine J_mono (jg_Sp_63 C hp0 (jd jdt_Sp_sums 15 rfl)) ?_
          refine J_mono (w_iload_n C (jd jdt_Sp_sums 16 rfl) rfl) ?_
          refine J_mono (w_iload_n C (jd jdt_Sp_sums 17 rfl) rfl) ?_
          refine J_bind (fun q6 hq6 => ?_)
          refine J_mono (jc_Sp_222 C (jkf_11_6 hp0) (C_Ru_measure l G F (jpf a0 6) a1 a2 (jkf_11_6 hp0) M hq6) rfl (Nat.le_trans (Nat.le_of_ble_eq_true rfl : 2 + 1 ≤ 3) hD) (jd jdt_Sp_sums 18 rfl)) ?_
          exact J_some (fun hx => hR q6 hx _ _ (jd jdt_Sp_sums 19 rfl) rfl)
        · refine J_mono (w_iconst_m1 C (jd jdt_Sp_sums 12 rfl)) ?_
          exact J_some (fun hx => hR (-1) hx _ _ (jd jdt_Sp_sums 13 rfl) rfl)
end
theorem C_Sp_sums (l : Launch) (G : JG) (F : jF G = false) (a0 : Nat) (a1 : Int32) (a2 : Int32) (hp0 : jkd a0 11) (M : SM) {q : Int32} (hf : f_Sp_sums a0 a1 a2 M = some q) : jMet l jy_Sp_sums jb_Sp_sums 3 (some FieldType.int) 3 0 0 G [.ref a0, .int a1, .int a2] jN0 (jce G M) (some (.int q)) jN0 (jce G M) :=
  j_met jo_Sp_sums (by decide) (Nat.le_of_ble_eq_true rfl) (fun p e s m args below meth c C hr hm => K_Sp_sums C F (Nat.le_refl _) a0 a1 a2 hp0 M (fun t => t = q) (fun v hX pc ls hd hn => by cases hX; exact w_iret C hr hn hd) _ hf rfl)
def lp_Sp_led_22 (y0 : Nat) (y1 : Int32) (y2 : Int32) (M : SM) : Nat → Int32 → Int32 → Option (Int32)
  | 0, _, _ => none
  | n + 1, x3, x4 => if y2 < x4 then (some x3) else ((f_Pa_act (jpf (jop (M.1 y0 8)) 13) y1 x4 M).bind fun q6 => (if q6 = 0 then (some (x3 + 1)) else (some x3) : Option (Int32)).bind fun q7 => lp_Sp_led_22 y0 y1 y2 M n q7 (x4 + 1))
def f_Sp_led (a0 : Nat) (a1 : Int32) (a2 : Int32) (M : SM) : Option Int32 := (f_Sp_isDesk a0 a1 M).bind fun q1 => if q1 = 0 then (some (-1)) else ((f_Sp_isBar a2).bind fun q3 => if q3 = 0 then (some (-1)) else ((lp_Sp_led_22 a0 a1 a2 M jfuel 0 1).bind fun q9 => (f_Sp_at (jpf (jop (M.1 a0 8)) 8) a1 M).bind fun q10 => some (q9 * q10)))
section
variable {p : Program} {l : Launch} {e : Env} {R : Room} {s : State} {m : MethodId} {args : Array Value} {below : List Frame} {meth : Method} {c : Code} {G : JG} {D : Nat} {Q : State → Prop}
set_option maxHeartbeats 4000000 in
set_option maxRecDepth 20000 in
theorem K_Sp_led (C : jCx p R s m args meth c G jb_Sp_led 5 D "SluicePit") (F : jF G = false) (hD : 3 ≤ D) (a0 : Nat) (a1 : Int32) (a2 : Int32) (hp0 : jkd a0 11) (M : SM) (X : Int32 → Prop) (hR : ∀ v, X v → ∀ (pc : Nat) (ls : List (Option Value)), decode jb_Sp_led pc = .ok (.ireturn, 1) → narrow FieldType.int (.int v) = .int v → Wk p l e R s m args below meth c G 5 Q 0 0 jN0 (jce G M) pc ls [.int v]) : J X (f_Sp_led a0 a1 a2 M) (Wk p l e R s m args below meth c G 5 Q 0 0 jN0 (jce G M) 0 [some (.ref a0), some (.int a1), some (.int a2), none, none] []) := by
  unfold f_Sp_led
  refine J_mono (w_aload_n C (jd jdt_Sp_led 0 rfl) rfl) ?_
  refine J_mono (w_iload_n C (jd jdt_Sp_led 1 rfl) rfl) ?_
  refine J_bind (fun q1 hq1 => ?_)
  refine J_mono (jc_Sp_189 C hp0 (C_Sp_isDesk l G F a0 a1 hp0 M hq1) rfl (Nat.le_trans (Nat.le_of_ble_eq_true rfl : 1 + 1 ≤ 3) hD) (jd jdt_Sp_led 2 rfl)) ?_
  refine J_br (w_if_eq (y := 0) C (jd jdt_Sp_led 3 rfl) rfl) (fun h2 => J_pos h2 ?_) (fun h2 => J_neg h2 ?_)
  · refine J_mono (w_iconst_m1 C (jd jdt_Sp_led 7 rfl)) ?_
    exact J_some (fun hx => hR (-1) hx _ _ (jd jdt_Sp_led 8 rfl) rfl)
  · refine J_mono (w_iload_n C (jd jdt_Sp_led 4 rfl) rfl) ?_
    refine J_bind (fun q3 hq3 => ?_)
    refine J_mono (jc_Sp_208 C (C_Sp_isBar l G F a2 M hq3) rfl (Nat.le_trans (Nat.le_of_ble_eq_true rfl : 1 + 1 ≤ 3) hD) (jd jdt_Sp_led 5 rfl)) ?_
    refine J_br (w_if_ne (y := 0) C (jd jdt_Sp_led 6 rfl) rfl) (fun h4 => J_pos h4 ?_) (fun h4 => J_neg h4 ?_)
    · refine J_mono (w_iconst_m1 C (jd jdt_Sp_led 7 rfl)) ?_
      exact J_some (fun hx => hR (-1) hx _ _ (jd jdt_Sp_led 8 rfl) rfl)
    · refine J_mono (w_iconst_0 C (jd jdt_Sp_led 9 rfl)) ?_
      refine J_mono (w_istore_n (ls' := [some (.ref a0), some (.int a1), some (.int a2), some (.int 0), none]) C (jd jdt_Sp_led 10 rfl) (by decide) rfl rfl) ?_
      refine J_mono (w_iconst_1 C (jd jdt_Sp_led 11 rfl)) ?_
      refine J_mono (w_istore (ls' := [some (.ref a0), some (.int a1), some (.int a2), some (.int 0), some (.int 1)]) C (jd jdt_Sp_led 12 rfl) (by decide) rfl rfl) ?_
      have L22 : ∀ (y0 : Nat) (y1 : Int32) (y2 : Int32) (hy0 : jkd y0 11) (n : Nat) (x3 : Int32) (x4 : Int32), J (fun (q9 : Int32) => Wk p l e R s m args below meth c G 5 Q 0 0 jN0 (jce G M) 53 [some (.ref y0), some (.int y1), none, some (.int q9), none] []) (lp_Sp_led_22 y0 y1 y2 M n x3 x4) (Wk p l e R s m args below meth c G 5 Q 0 0 jN0 (jce G M) 22 [some (.ref y0), some (.int y1), some (.int y2), some (.int x3), some (.int x4)] []) := by
        intro y0 y1 y2 hy0 n
        induction n with
        | zero => intro x3 x4; exact J_none
        | succ n ih =>
          intro x3 x4
          unfold lp_Sp_led_22
          refine J_mono (w_iload C (jd jdt_Sp_led 13 rfl) rfl) ?_
          refine J_mono (w_iload_n C (jd jdt_Sp_led 14 rfl) rfl) ?_
          refine J_br (w_icmp_gt C (jd jdt_Sp_led 15 rfl) rfl) (fun h5 => J_pos h5 ?_) (fun h5 => J_neg h5 ?_)
          · exact J_some (fun hx => Wk_sb hx ⟨rfl, rfl, rfl, trivial⟩)
          · refine J_mono (w_aload_n C (jd jdt_Sp_led 16 rfl) rfl) ?_
            refine J_mono (jg_Sp_37 C hy0 (jd jdt_Sp_led 17 rfl)) ?_
            refine J_mono (jg_Sp_163 C (jop_kd _) (jd jdt_Sp_led 18 rfl)) ?_
            refine J_mono (w_iload_n C (jd jdt_Sp_led 19 rfl) rfl) ?_
            refine J_mono (w_iload C (jd jdt_Sp_led 20 rfl) rfl) ?_
            refine J_bind (fun q6 hq6 => ?_)
            refine J_mono (jc_Sp_202 C (jkf_1_13 (jop_kd _)) (C_Pa_act l G F (jpf (jop (M.1 y0 8)) 13) y1 x4 (jkf_1_13 (jop_kd _)) M hq6) rfl (Nat.le_trans (Nat.le_of_ble_eq_true rfl : 2 + 1 ≤ 3) hD) (jd jdt_Sp_led 21 rfl)) ?_
            refine J_seq (fun (q7 : Int32) => Wk p l e R s m args below meth c G 5 Q 0 0 jN0 (jce G M) 47 [some (.ref y0), some (.int y1), some (.int y2), some (.int q7), some (.int x4)] []) ?_ (fun q7 hq7 => ?_)
            · refine J_br (w_if_ne (y := 0) C (jd jdt_Sp_led 22 rfl) rfl) (fun h8 => J_pos h8 ?_) (fun h8 => J_neg h8 ?_)
              · refine J_mono (w_iinc (v := x3 + 1) (ls' := [some (.ref y0), some (.int y1), some (.int y2), some (.int (x3 + 1)), some (.int x4)]) C (jd jdt_Sp_led 23 rfl) rfl rfl (by decide) rfl rfl) ?_
                exact J_some (fun hx => Wk_sb hx ⟨rfl, rfl, rfl, rfl, rfl, trivial⟩)
              · exact J_some (fun hx => Wk_sb hx ⟨rfl, rfl, rfl, rfl, rfl, trivial⟩)
            · refine J_mono (w_iinc (v := x4 + 1) (ls' := [some (.ref y0), some (.int y1), some (.int y2), some (.int q7), some (.int (x4 + 1))]) C (jd jdt_Sp_led 24 rfl) rfl rfl (by decide) rfl rfl) ?_
              refine J_mono (w_goto C (jd jdt_Sp_led 25 rfl) rfl) ?_
              exact J_sub (ih q7 (x4 + 1)) ⟨rfl, rfl, rfl, rfl, rfl, trivial⟩
      refine J_seq (fun (q9 : Int32) => Wk p l e R s m args below meth c G 5 Q 0 0 jN0 (jce G M) 53 [some (.ref a0), some (.int a1), none, some (.int q9), none] []) (J_sub (L22 a0 a1 a2 hp0 jfuel 0 1) ⟨rfl, rfl, rfl, rfl, rfl, trivial⟩) (fun q9 hq9 => ?_)
      refine J_mono (w_iload_n C (jd jdt_Sp_led 26 rfl) rfl) ?_
      refine J_mono (w_aload_n C (jd jdt_Sp_led 27 rfl) rfl) ?_
      refine J_mono (jg_Sp_37 C hp0 (jd jdt_Sp_led 28 rfl)) ?_
      refine J_mono (jg_Sp_195 C (jop_kd _) (jd jdt_Sp_led 29 rfl)) ?_
      refine J_mono (w_iload_n C (jd jdt_Sp_led 30 rfl) rfl) ?_
      refine J_bind (fun q10 hq10 => ?_)
      refine J_mono (jc_Sp_198 C (C_Sp_at l G F (jpf (jop (M.1 a0 8)) 8) a1 (jkf_1_8 (jop_kd _)) M hq10) rfl (Nat.le_trans (Nat.le_of_ble_eq_true rfl : 1 + 1 ≤ 3) hD) (jd jdt_Sp_led 31 rfl)) ?_
      refine J_mono (w_imul C (jd jdt_Sp_led 32 rfl)) ?_
      exact J_some (fun hx => hR (q9 * q10) hx _ _ (jd jdt_Sp_led 33 rfl) rfl)
end
theorem C_Sp_led (l : Launch) (G : JG) (F : jF G = false) (a0 : Nat) (a1 : Int32) (a2 : Int32) (hp0 : jkd a0 11) (M : SM) {q : Int32} (hf : f_Sp_led a0 a1 a2 M = some q) : jMet l jy_Sp_led jb_Sp_led 5 (some FieldType.int) 3 0 0 G [.ref a0, .int a1, .int a2] jN0 (jce G M) (some (.int q)) jN0 (jce G M) :=
  j_met jo_Sp_led (by decide) (Nat.le_of_ble_eq_true rfl) (fun p e s m args below meth c C hr hm => K_Sp_led C F (Nat.le_refl _) a0 a1 a2 hp0 M (fun t => t = q) (fun v hX pc ls hd hn => by cases hX; exact w_iret C hr hn hd) _ hf rfl)
def f_St_holds (a0 : Nat) (a1 : Int32) (M : SM) : Option Int32 := if a1 < 0 then (some 0) else (if a1 < (M.1 a0 2) then (some 1) else (some 0))
section
variable {p : Program} {l : Launch} {e : Env} {R : Room} {s : State} {m : MethodId} {args : Array Value} {below : List Frame} {meth : Method} {c : Code} {G : JG} {D : Nat} {Q : State → Prop}
set_option maxHeartbeats 4000000 in
set_option maxRecDepth 20000 in
theorem K_St_holds (C : jCx p R s m args meth c G jb_St_holds 2 D "SluicePit$Stand") (F : jF G = false) (hD : 1 ≤ D) (a0 : Nat) (a1 : Int32) (hp0 : jkd a0 9) (M : SM) (X : Int32 → Prop) (hR : ∀ v, X v → ∀ (pc : Nat) (ls : List (Option Value)), decode jb_St_holds pc = .ok (.ireturn, 1) → narrow FieldType.boolean (.int v) = .int v → Wk p l e R s m args below meth c G 2 Q 0 0 jN0 (jce G M) pc ls [.int v]) : J X (f_St_holds a0 a1 M) (Wk p l e R s m args below meth c G 2 Q 0 0 jN0 (jce G M) 0 [some (.ref a0), some (.int a1)] []) := by
  unfold f_St_holds
  refine J_mono (w_iload_n C (jd jdt_St_holds 0 rfl) rfl) ?_
  refine J_br (w_if_lt (y := 0) C (jd jdt_St_holds 1 rfl) rfl) (fun h1 => J_pos h1 ?_) (fun h1 => J_neg h1 ?_)
  · refine J_mono (w_iconst_0 C (jd jdt_St_holds 8 rfl)) ?_
    exact J_some (fun hx => hR 0 hx _ _ (jd jdt_St_holds 9 rfl) rfl)
  · refine J_mono (w_iload_n C (jd jdt_St_holds 2 rfl) rfl) ?_
    refine J_mono (w_aload_n C (jd jdt_St_holds 3 rfl) rfl) ?_
    refine J_mono (jg_St_18 C hp0 (jd jdt_St_holds 4 rfl)) ?_
    refine J_br (w_icmp_ge C (jd jdt_St_holds 5 rfl) rfl) (fun h2 => J_pos h2 ?_) (fun h2 => J_neg h2 ?_)
    · refine J_mono (w_iconst_1 C (jd jdt_St_holds 6 rfl)) ?_
      refine J_mono (w_goto C (jd jdt_St_holds 7 rfl) rfl) ?_
      exact J_some (fun hx => hR 1 hx _ _ (jd jdt_St_holds 9 rfl) rfl)
    · refine J_mono (w_iconst_0 C (jd jdt_St_holds 8 rfl)) ?_
      exact J_some (fun hx => hR 0 hx _ _ (jd jdt_St_holds 9 rfl) rfl)
end
theorem C_St_holds (l : Launch) (G : JG) (F : jF G = false) (a0 : Nat) (a1 : Int32) (hp0 : jkd a0 9) (M : SM) {q : Int32} (hf : f_St_holds a0 a1 M = some q) : jMet l jy_St_holds jb_St_holds 2 (some FieldType.boolean) 1 0 0 G [.ref a0, .int a1] jN0 (jce G M) (some (.int q)) jN0 (jce G M) :=
  j_met jo_St_holds (by decide) (Nat.le_of_ble_eq_true rfl) (fun p e s m args below meth c C hr hm => K_St_holds C F (Nat.le_refl _) a0 a1 hp0 M (fun t => t = q) (fun v hX pc ls hd hn => by cases hX; exact w_iret C hr hn hd) _ hf rfl)
def f_Ru_boatCell (a0 : Nat) (a1 : Int32) (a2 : Int32) (M : SM) : Option Int32 := (f_Sp_cellOf (jpf a0 1) a1 a2 M).bind fun q1 => some q1
section
variable {p : Program} {l : Launch} {e : Env} {R : Room} {s : State} {m : MethodId} {args : Array Value} {below : List Frame} {meth : Method} {c : Code} {G : JG} {D : Nat} {Q : State → Prop}
set_option maxHeartbeats 4000000 in
set_option maxRecDepth 20000 in
theorem K_Ru_boatCell (C : jCx p R s m args meth c G jb_Ru_boatCell 3 D "SluicePit$Run") (F : jF G = false) (hD : 2 ≤ D) (a0 : Nat) (a1 : Int32) (a2 : Int32) (hp0 : jkd a0 8) (M : SM) (X : Int32 → Prop) (hR : ∀ v, X v → ∀ (pc : Nat) (ls : List (Option Value)), decode jb_Ru_boatCell pc = .ok (.ireturn, 1) → narrow FieldType.int (.int v) = .int v → Wk p l e R s m args below meth c G 3 Q 0 0 jN0 (jce G M) pc ls [.int v]) : J X (f_Ru_boatCell a0 a1 a2 M) (Wk p l e R s m args below meth c G 3 Q 0 0 jN0 (jce G M) 0 [some (.ref a0), some (.int a1), some (.int a2)] []) := by
  unfold f_Ru_boatCell
  refine J_mono (w_aload_n C (jd jdt_Ru_boatCell 0 rfl) rfl) ?_
  refine J_mono (jg_Ru_16 C hp0 (jd jdt_Ru_boatCell 1 rfl)) ?_
  refine J_mono (w_iload_n C (jd jdt_Ru_boatCell 2 rfl) rfl) ?_
  refine J_mono (w_iload_n C (jd jdt_Ru_boatCell 3 rfl) rfl) ?_
  refine J_bind (fun q1 hq1 => ?_)
  refine J_mono (jc_Ru_22 C (C_Sp_cellOf l G F (jpf a0 1) a1 a2 (jkf_8_1 hp0) M hq1) rfl (Nat.le_trans (Nat.le_of_ble_eq_true rfl : 1 + 1 ≤ 2) hD) (jd jdt_Ru_boatCell 4 rfl)) ?_
  exact J_some (fun hx => hR q1 hx _ _ (jd jdt_Ru_boatCell 5 rfl) rfl)
end
theorem C_Ru_boatCell (l : Launch) (G : JG) (F : jF G = false) (a0 : Nat) (a1 : Int32) (a2 : Int32) (hp0 : jkd a0 8) (M : SM) {q : Int32} (hf : f_Ru_boatCell a0 a1 a2 M = some q) : jMet l jy_Ru_boatCell jb_Ru_boatCell 3 (some FieldType.int) 2 0 0 G [.ref a0, .int a1, .int a2] jN0 (jce G M) (some (.int q)) jN0 (jce G M) :=
  j_met jo_Ru_boatCell (by decide) (Nat.le_of_ble_eq_true rfl) (fun p e s m args below meth c C hr hm => K_Ru_boatCell C F (Nat.le_refl _) a0 a1 a2 hp0 M (fun t => t = q) (fun v hX pc ls hd hn => by cases hX; exact w_iret C hr hn hd) _ hf rfl)
def f_Sp_isAground (a0 : Nat) (a1 : Int32) (a2 : Int32) (M : SM) : Option Int32 := (f_Ru_boatCell (jpf a0 6) a2 a1 M).bind fun q1 => (f_Ru_water (jpf a0 6) a2 q1 M).bind fun q2 => (f_St_amountOf (jpf (jop (M.1 a0 8)) 11) a1 M).bind fun q3 => if q2 < q3 then (some 1) else (some 0)
section
variable {p : Program} {l : Launch} {e : Env} {R : Room} {s : State} {m : MethodId} {args : Array Value} {below : List Frame} {meth : Method} {c : Code} {G : JG} {D : Nat} {Q : State → Prop}
set_option maxHeartbeats 4000000 in
set_option maxRecDepth 20000 in
theorem K_Sp_isAground (C : jCx p R s m args meth c G jb_Sp_isAground 3 D "SluicePit") (F : jF G = false) (hD : 3 ≤ D) (a0 : Nat) (a1 : Int32) (a2 : Int32) (hp0 : jkd a0 11) (M : SM) (X : Int32 → Prop) (hR : ∀ v, X v → ∀ (pc : Nat) (ls : List (Option Value)), decode jb_Sp_isAground pc = .ok (.ireturn, 1) → narrow FieldType.boolean (.int v) = .int v → Wk p l e R s m args below meth c G 3 Q 0 0 jN0 (jce G M) pc ls [.int v]) : J X (f_Sp_isAground a0 a1 a2 M) (Wk p l e R s m args below meth c G 3 Q 0 0 jN0 (jce G M) 0 [some (.ref a0), some (.int a1), some (.int a2)] []) := by
  unfold f_Sp_isAground
  refine J_mono (w_aload_n C (jd jdt_Sp_isAground 0 rfl) rfl) ?_
  refine J_mono (jg_Sp_63 C hp0 (jd jdt_Sp_isAground 1 rfl)) ?_
  refine J_mono (w_iload_n C (jd jdt_Sp_isAground 2 rfl) rfl) ?_
  refine J_mono (w_aload_n C (jd jdt_Sp_isAground 3 rfl) rfl) ?_
  refine J_mono (jg_Sp_63 C hp0 (jd jdt_Sp_isAground 4 rfl)) ?_
  refine J_mono (w_iload_n C (jd jdt_Sp_isAground 5 rfl) rfl) ?_
  refine J_mono (w_iload_n C (jd jdt_Sp_isAground 6 rfl) rfl) ?_
  refine J_bind (fun q1 hq1 => ?_)
  refine J_mono (jc_Sp_232 C (jkf_11_6 hp0) (C_Ru_boatCell l G F (jpf a0 6) a2 a1 (jkf_11_6 hp0) M hq1) rfl (Nat.le_trans (Nat.le_of_ble_eq_true rfl : 2 + 1 ≤ 3) hD) (jd jdt_Sp_isAground 7 rfl)) ?_
  refine J_bind (fun q2 hq2 => ?_)
  refine J_mono (jc_Sp_211 C (jkf_11_6 hp0) (C_Ru_water l G F (jpf a0 6) a2 q1 (jkf_11_6 hp0) M hq2) rfl (Nat.le_trans (Nat.le_of_ble_eq_true rfl : 2 + 1 ≤ 3) hD) (jd jdt_Sp_isAground 8 rfl)) ?_
  refine J_mono (w_aload_n C (jd jdt_Sp_isAground 9 rfl) rfl) ?_
  refine J_mono (jg_Sp_37 C hp0 (jd jdt_Sp_isAground 10 rfl)) ?_
  refine J_mono (jg_Sp_151 C (jop_kd _) (jd jdt_Sp_isAground 11 rfl)) ?_
  refine J_mono (w_iload_n C (jd jdt_Sp_isAground 12 rfl) rfl) ?_
  refine J_bind (fun q3 hq3 => ?_)
  refine J_mono (jc_Sp_235 C (jkf_1_11 (jop_kd _)) (C_St_amountOf l G F (jpf (jop (M.1 a0 8)) 11) a1 (jkf_1_11 (jop_kd _)) M hq3) rfl (Nat.le_trans (Nat.le_of_ble_eq_true rfl : 2 + 1 ≤ 3) hD) (jd jdt_Sp_isAground 13 rfl)) ?_
  refine J_br (w_icmp_ge C (jd jdt_Sp_isAground 14 rfl) rfl) (fun h4 => J_pos h4 ?_) (fun h4 => J_neg h4 ?_)
  · refine J_mono (w_iconst_1 C (jd jdt_Sp_isAground 15 rfl)) ?_
    refine J_mono (w_goto C (jd jdt_Sp_isAground 16 rfl) rfl) ?_
    exact J_some (fun hx => hR 1 hx _ _ (jd jdt_Sp_isAground 18 rfl) rfl)
  · refine J_mono (w_iconst_0 C (jd jdt_Sp_isAground 17 rfl)) ?_
    exact J_some (fun hx => hR 0 hx _ _ (jd jdt_Sp_isAground 18 rfl) rfl)
end
theorem C_Sp_isAground (l : Launch) (G : JG) (F : jF G = false) (a0 : Nat) (a1 : Int32) (a2 : Int32) (hp0 : jkd a0 11) (M : SM) {q : Int32} (hf : f_Sp_isAground a0 a1 a2 M = some q) : jMet l jy_Sp_isAground jb_Sp_isAground 3 (some FieldType.boolean) 3 0 0 G [.ref a0, .int a1, .int a2] jN0 (jce G M) (some (.int q)) jN0 (jce G M) :=
  j_met jo_Sp_isAground (by decide) (Nat.le_of_ble_eq_true rfl) (fun p e s m args below meth c C hr hm => K_Sp_isAground C F (Nat.le_refl _) a0 a1 a2 hp0 M (fun t => t = q) (fun v hX pc ls hd hn => by cases hX; exact w_iret C hr hn hd) _ hf rfl)
def f_Sp_boat (a0 : Nat) (a1 : Int32) (a2 : Int32) (a3 : Int32) (M : SM) : Option Int32 := (f_St_holds (jpf (jop (M.1 a0 8)) 11) a1 M).bind fun q1 => if q1 = 0 then (some (-1)) else ((f_Sp_isBar a2).bind fun q3 => if q3 = 0 then (some (-1)) else (if a3 = 0 then ((f_Ru_boatCell (jpf a0 6) a2 a1 M).bind fun q6 => some q6) else ((f_Sp_isAground a0 a1 a2 M).bind fun q7 => if q7 = 0 then (some 0) else (some 1))))
section
variable {p : Program} {l : Launch} {e : Env} {R : Room} {s : State} {m : MethodId} {args : Array Value} {below : List Frame} {meth : Method} {c : Code} {G : JG} {D : Nat} {Q : State → Prop}
set_option maxHeartbeats 4000000 in
set_option maxRecDepth 20000 in
theorem K_Sp_boat (C : jCx p R s m args meth c G jb_Sp_boat 4 D "SluicePit") (F : jF G = false) (hD : 4 ≤ D) (a0 : Nat) (a1 : Int32) (a2 : Int32) (a3 : Int32) (hp0 : jkd a0 11) (M : SM) (X : Int32 → Prop) (hR : ∀ v, X v → ∀ (pc : Nat) (ls : List (Option Value)), decode jb_Sp_boat pc = .ok (.ireturn, 1) → narrow FieldType.int (.int v) = .int v → Wk p l e R s m args below meth c G 4 Q 0 0 jN0 (jce G M) pc ls [.int v]) : J X (f_Sp_boat a0 a1 a2 a3 M) (Wk p l e R s m args below meth c G 4 Q 0 0 jN0 (jce G M) 0 [some (.ref a0), some (.int a1), some (.int a2), some (.int a3)] []) := by
  unfold f_Sp_boat
  refine J_mono (w_aload_n C (jd jdt_Sp_boat 0 rfl) rfl) ?_
  refine J_mono (jg_Sp_37 C hp0 (jd jdt_Sp_boat 1 rfl)) ?_
  refine J_mono (jg_Sp_151 C (jop_kd _) (jd jdt_Sp_boat 2 rfl)) ?_
  refine J_mono (w_iload_n C (jd jdt_Sp_boat 3 rfl) rfl) ?_
  refine J_bind (fun q1 hq1 => ?_)
  refine J_mono (jc_Sp_225 C (jkf_1_11 (jop_kd _)) (C_St_holds l G F (jpf (jop (M.1 a0 8)) 11) a1 (jkf_1_11 (jop_kd _)) M hq1) rfl (Nat.le_trans (Nat.le_of_ble_eq_true rfl : 1 + 1 ≤ 4) hD) (jd jdt_Sp_boat 4 rfl)) ?_
  refine J_br (w_if_eq (y := 0) C (jd jdt_Sp_boat 5 rfl) rfl) (fun h2 => J_pos h2 ?_) (fun h2 => J_neg h2 ?_)
  · refine J_mono (w_iconst_m1 C (jd jdt_Sp_boat 9 rfl)) ?_
    exact J_some (fun hx => hR (-1) hx _ _ (jd jdt_Sp_boat 10 rfl) rfl)
  · refine J_mono (w_iload_n C (jd jdt_Sp_boat 6 rfl) rfl) ?_
    refine J_bind (fun q3 hq3 => ?_)
    refine J_mono (jc_Sp_208 C (C_Sp_isBar l G F a2 M hq3) rfl (Nat.le_trans (Nat.le_of_ble_eq_true rfl : 1 + 1 ≤ 4) hD) (jd jdt_Sp_boat 7 rfl)) ?_
    refine J_br (w_if_ne (y := 0) C (jd jdt_Sp_boat 8 rfl) rfl) (fun h4 => J_pos h4 ?_) (fun h4 => J_neg h4 ?_)
    · refine J_mono (w_iconst_m1 C (jd jdt_Sp_boat 9 rfl)) ?_
      exact J_some (fun hx => hR (-1) hx _ _ (jd jdt_Sp_boat 10 rfl) rfl)
    · refine J_mono (w_iload_n C (jd jdt_Sp_boat 11 rfl) rfl) ?_
      refine J_br (w_if_eq (y := 0) C (jd jdt_Sp_boat 12 rfl) rfl) (fun h5 => J_pos h5 ?_) (fun h5 => J_neg h5 ?_)
      · refine J_mono (w_aload_n C (jd jdt_Sp_boat 22 rfl) rfl) ?_
        refine J_mono (jg_Sp_63 C hp0 (jd jdt_Sp_boat 23 rfl)) ?_
        refine J_mono (w_iload_n C (jd jdt_Sp_boat 24 rfl) rfl) ?_
        refine J_mono (w_iload_n C (jd jdt_Sp_boat 25 rfl) rfl) ?_
        refine J_bind (fun q6 hq6 => ?_)
        refine J_mono (jc_Sp_232 C (jkf_11_6 hp0) (C_Ru_boatCell l G F (jpf a0 6) a2 a1 (jkf_11_6 hp0) M hq6) rfl (Nat.le_trans (Nat.le_of_ble_eq_true rfl : 2 + 1 ≤ 4) hD) (jd jdt_Sp_boat 26 rfl)) ?_
        exact J_some (fun hx => hR q6 hx _ _ (jd jdt_Sp_boat 27 rfl) rfl)
      · refine J_mono (w_aload_n C (jd jdt_Sp_boat 13 rfl) rfl) ?_
        refine J_mono (w_iload_n C (jd jdt_Sp_boat 14 rfl) rfl) ?_
        refine J_mono (w_iload_n C (jd jdt_Sp_boat 15 rfl) rfl) ?_
        refine J_bind (fun q7 hq7 => ?_)
        refine J_mono (jc_Sp_228 C hp0 (C_Sp_isAground l G F a0 a1 a2 hp0 M hq7) rfl (Nat.le_trans (Nat.le_of_ble_eq_true rfl : 3 + 1 ≤ 4) hD) (jd jdt_Sp_boat 16 rfl)) ?_
        refine J_br (w_if_eq (y := 0) C (jd jdt_Sp_boat 17 rfl) rfl) (fun h8 => J_pos h8 ?_) (fun h8 => J_neg h8 ?_)
        · refine J_mono (w_iconst_0 C (jd jdt_Sp_boat 20 rfl)) ?_
          exact J_some (fun hx => hR 0 hx _ _ (jd jdt_Sp_boat 21 rfl) rfl)
        · refine J_mono (w_iconst_1 C (jd jdt_Sp_boat 18 rfl)) ?_
          refine J_mono (w_goto C (jd jdt_Sp_boat 19 rfl) rfl) ?_
          exact J_some (fun hx => hR 1 hx _ _ (jd jdt_Sp_boat 21 rfl) rfl)
end
theorem C_Sp_boat (l : Launch) (G : JG) (F : jF G = false) (a0 : Nat) (a1 : Int32) (a2 : Int32) (a3 : Int32) (hp0 : jkd a0 11) (M : SM) {q : Int32} (hf : f_Sp_boat a0 a1 a2 a3 M = some q) : jMet l jy_Sp_boat jb_Sp_boat 4 (some FieldType.int) 4 0 0 G [.ref a0, .int a1, .int a2, .int a3] jN0 (jce G M) (some (.int q)) jN0 (jce G M) :=
  j_met jo_Sp_boat (by decide) (Nat.le_of_ble_eq_true rfl) (fun p e s m args below meth c C hr hm => K_Sp_boat C F (Nat.le_refl _) a0 a1 a2 a3 hp0 M (fun t => t = q) (fun v hX pc ls hd hn => by cases hX; exact w_iret C hr hn hd) _ hf rfl)
def lp_Sp_first_44 (y0 : Nat) (y1 : Int32) (y2 : Int32) (M : SM) : Nat → Int32 → Option ((Unit) ⊕ Int32)
  | 0, _ => none
  | n + 1, x3 => if 60 < x3 then (some (.inl ())) else (if y2 = 0 then ((f_Sp_isAground y0 y1 x3 M).bind fun q9 => if q9 = 0 then (lp_Sp_first_44 y0 y1 y2 M n (x3 + 1)) else (some (.inr x3))) else ((f_Ru_boatCell (jpf y0 6) x3 y1 M).bind fun q11 => if q11 = ((M.1 (jop (M.1 y0 8)) 1) - 1) then (some (.inr x3)) else (lp_Sp_first_44 y0 y1 y2 M n (x3 + 1))))
def f_Sp_first (a0 : Nat) (a1 : Int32) (a2 : Int32) (M : SM) : Option Int32 := (f_St_holds (jpf (jop (M.1 a0 8)) 11) a1 M).bind fun q1 => if q1 = 0 then (some (-1)) else (if a2 < 0 then (some (-1)) else (if 2 < a2 then (some (-1)) else (if a2 = 2 then ((f_St_amountOf (jpf (jop (M.1 a0 8)) 11) a1 M).bind fun q6 => some q6) else (jsb (lp_Sp_first_44 a0 a1 a2 M jfuel 0) id fun q13 => some (-1)))))
section
variable {p : Program} {l : Launch} {e : Env} {R : Room} {s : State} {m : MethodId} {args : Array Value} {below : List Frame} {meth : Method} {c : Code} {G : JG} {D : Nat} {Q : State → Prop}
set_option maxHeartbeats 4000000 in
set_option maxRecDepth 20000 in
theorem K_Sp_first (C : jCx p R s m args meth c G jb_Sp_first 4 D "SluicePit") (F : jF G = false) (hD : 4 ≤ D) (a0 : Nat) (a1 : Int32) (a2 : Int32) (hp0 : jkd a0 11) (M : SM) (X : Int32 → Prop) (hR : ∀ v, X v → ∀ (pc : Nat) (ls : List (Option Value)), decode jb_Sp_first pc = .ok (.ireturn, 1) → narrow FieldType.int (.int v) = .int v → Wk p l e R s m args below meth c G 4 Q 0 0 jN0 (jce G M) pc ls [.int v]) : J X (f_Sp_first a0 a1 a2 M) (Wk p l e R s m args below meth c G 4 Q 0 0 jN0 (jce G M) 0 [some (.ref a0), some (.int a1), some (.int a2), none] []) := by
  unfold f_Sp_first
  refine J_mono (w_aload_n C (jd jdt_Sp_first 0 rfl) rfl) ?_
  refine J_mono (jg_Sp_37 C hp0 (jd jdt_Sp_first 1 rfl)) ?_
  refine J_mono (jg_Sp_151 C (jop_kd _) (jd jdt_Sp_first 2 rfl)) ?_
  refine J_mono (w_iload_n C (jd jdt_Sp_first 3 rfl) rfl) ?_
  refine J_bind (fun q1 hq1 => ?_)
  refine J_mono (jc_Sp_225 C (jkf_1_11 (jop_kd _)) (C_St_holds l G F (jpf (jop (M.1 a0 8)) 11) a1 (jkf_1_11 (jop_kd _)) M hq1) rfl (Nat.le_trans (Nat.le_of_ble_eq_true rfl : 1 + 1 ≤ 4) hD) (jd jdt_Sp_first 4 rfl)) ?_
  refine J_br (w_if_eq (y := 0) C (jd jdt_Sp_first 5 rfl) rfl) (fun h2 => J_pos h2 ?_) (fun h2 => J_neg h2 ?_)
  · refine J_mono (w_iconst_m1 C (jd jdt_Sp_first 11 rfl)) ?_
    exact J_some (fun hx => hR (-1) hx _ _ (jd jdt_Sp_first 12 rfl) rfl)
  · refine J_mono (w_iload_n C (jd jdt_Sp_first 6 rfl) rfl) ?_
    refine J_br (w_if_lt (y := 0) C (jd jdt_Sp_first 7 rfl) rfl) (fun h3 => J_pos h3 ?_) (fun h3 => J_neg h3 ?_)
    · refine J_mono (w_iconst_m1 C (jd jdt_Sp_first 11 rfl)) ?_
      exact J_some (fun hx => hR (-1) hx _ _ (jd jdt_Sp_first 12 rfl) rfl)
    · refine J_mono (w_iload_n C (jd jdt_Sp_first 8 rfl) rfl) ?_
      refine J_mono (w_iconst_2 C (jd jdt_Sp_first 9 rfl)) ?_
      refine J_br (w_icmp_le C (jd jdt_Sp_first 10 rfl) rfl) (fun h4 => J_pos h4 ?_) (fun h4 => J_neg h4 ?_)
      · refine J_mono (w_iconst_m1 C (jd jdt_Sp_first 11 rfl)) ?_
        exact J_some (fun hx => hR (-1) hx _ _ (jd jdt_Sp_first 12 rfl) rfl)
      · refine J_mono (w_iload_n C (jd jdt_Sp_first 13 rfl) rfl) ?_
        refine J_mono (w_iconst_2 C (jd jdt_Sp_first 14 rfl)) ?_
        refine J_br (w_icmp_ne C (jd jdt_Sp_first 15 rfl) rfl) (fun h5 => J_pos h5 ?_) (fun h5 => J_neg h5 ?_)
        · refine J_mono (w_aload_n C (jd jdt_Sp_first 16 rfl) rfl) ?_
          refine J_mono (jg_Sp_37 C hp0 (jd jdt_Sp_first 17 rfl)) ?_
          refine J_mono (jg_Sp_151 C (jop_kd _) (jd jdt_Sp_first 18 rfl)) ?_
          refine J_mono (w_iload_n C (jd jdt_Sp_first 19 rfl) rfl) ?_
          refine J_bind (fun q6 hq6 => ?_)
          refine J_mono (jc_Sp_235 C (jkf_1_11 (jop_kd _)) (C_St_amountOf l G F (jpf (jop (M.1 a0 8)) 11) a1 (jkf_1_11 (jop_kd _)) M hq6) rfl (Nat.le_trans (Nat.le_of_ble_eq_true rfl : 2 + 1 ≤ 4) hD) (jd jdt_Sp_first 20 rfl)) ?_
          exact J_some (fun hx => hR q6 hx _ _ (jd jdt_Sp_first 21 rfl) rfl)
        · refine J_mono (w_iconst_0 C (jd jdt_Sp_first 22 rfl)) ?_
          refine J_mono (w_istore_n (ls' := [some (.ref a0), some (.int a1), some (.int a2), some (.int 0)]) C (jd jdt_Sp_first 23 rfl) (by decide) rfl rfl) ?_
          have L44 : ∀ (y0 : Nat) (y1 : Int32) (y2 : Int32) (hy0 : jkd y0 11) (n : Nat) (x3 : Int32), J (Sum.elim (fun (q13 : Unit) => Wk p l e R s m args below meth c G 4 Q 0 0 jN0 (jce G M) 95 [none, none, none, none] []) X) (lp_Sp_first_44 y0 y1 y2 M n x3) (Wk p l e R s m args below meth c G 4 Q 0 0 jN0 (jce G M) 44 [some (.ref y0), some (.int y1), some (.int y2), some (.int x3)] []) := by
            intro y0 y1 y2 hy0 n
            induction n with
            | zero => intro x3; exact J_none
            | succ n ih =>
              intro x3
              unfold lp_Sp_first_44
              refine J_mono (w_iload_n C (jd jdt_Sp_first 24 rfl) rfl) ?_
              refine J_mono (w_bipush_60 C (jd jdt_Sp_first 25 rfl)) ?_
              refine J_br (w_icmp_gt C (jd jdt_Sp_first 26 rfl) rfl) (fun h7 => J_pos h7 ?_) (fun h7 => J_neg h7 ?_)
              · exact J_some (fun hx => Wk_sb hx trivial)
              · refine J_mono (w_iload_n C (jd jdt_Sp_first 27 rfl) rfl) ?_
                refine J_br (w_if_ne (y := 0) C (jd jdt_Sp_first 28 rfl) rfl) (fun h8 => J_pos h8 ?_) (fun h8 => J_neg h8 ?_)
                · refine J_mono (w_aload_n C (jd jdt_Sp_first 29 rfl) rfl) ?_
                  refine J_mono (w_iload_n C (jd jdt_Sp_first 30 rfl) rfl) ?_
                  refine J_mono (w_iload_n C (jd jdt_Sp_first 31 rfl) rfl) ?_
                  refine J_bind (fun q9 hq9 => ?_)
                  refine J_mono (jc_Sp_228 C hy0 (C_Sp_isAground l G F y0 y1 x3 hy0 M hq9) rfl (Nat.le_trans (Nat.le_of_ble_eq_true rfl : 3 + 1 ≤ 4) hD) (jd jdt_Sp_first 32 rfl)) ?_
                  refine J_br (w_if_eq (y := 0) C (jd jdt_Sp_first 33 rfl) rfl) (fun h10 => J_pos h10 ?_) (fun h10 => J_neg h10 ?_)
                  · refine J_mono (w_iinc (v := x3 + 1) (ls' := [some (.ref y0), some (.int y1), some (.int y2), some (.int (x3 + 1))]) C (jd jdt_Sp_first 48 rfl) rfl rfl (by decide) rfl rfl) ?_
                    refine J_mono (w_goto C (jd jdt_Sp_first 49 rfl) rfl) ?_
                    exact J_sub (ih (x3 + 1)) ⟨rfl, rfl, rfl, rfl, trivial⟩
                  · refine J_mono (w_goto C (jd jdt_Sp_first 34 rfl) rfl) ?_
                    refine J_mono (w_iload_n C (jd jdt_Sp_first 46 rfl) rfl) ?_
                    exact J_some (fun hx => hR x3 hx _ _ (jd jdt_Sp_first 47 rfl) rfl)
                · refine J_mono (w_aload_n C (jd jdt_Sp_first 35 rfl) rfl) ?_
                  refine J_mono (jg_Sp_63 C hy0 (jd jdt_Sp_first 36 rfl)) ?_
                  refine J_mono (w_iload_n C (jd jdt_Sp_first 37 rfl) rfl) ?_
                  refine J_mono (w_iload_n C (jd jdt_Sp_first 38 rfl) rfl) ?_
                  refine J_bind (fun q11 hq11 => ?_)
                  refine J_mono (jc_Sp_232 C (jkf_11_6 hy0) (C_Ru_boatCell l G F (jpf y0 6) x3 y1 (jkf_11_6 hy0) M hq11) rfl (Nat.le_trans (Nat.le_of_ble_eq_true rfl : 2 + 1 ≤ 4) hD) (jd jdt_Sp_first 39 rfl)) ?_
                  refine J_mono (w_aload_n C (jd jdt_Sp_first 40 rfl) rfl) ?_
                  refine J_mono (jg_Sp_37 C hy0 (jd jdt_Sp_first 41 rfl)) ?_
                  refine J_mono (jg_Sp_132 C (jop_kd _) (jd jdt_Sp_first 42 rfl)) ?_
                  refine J_mono (w_iconst_1 C (jd jdt_Sp_first 43 rfl)) ?_
                  refine J_mono (w_isub C (jd jdt_Sp_first 44 rfl)) ?_
                  refine J_br (w_icmp_ne C (jd jdt_Sp_first 45 rfl) rfl) (fun h12 => J_pos h12 ?_) (fun h12 => J_neg h12 ?_)
                  · refine J_mono (w_iload_n C (jd jdt_Sp_first 46 rfl) rfl) ?_
                    exact J_some (fun hx => hR x3 hx _ _ (jd jdt_Sp_first 47 rfl) rfl)
                  · refine J_mono (w_iinc (v := x3 + 1) (ls' := [some (.ref y0), some (.int y1), some (.int y2), some (.int (x3 + 1))]) C (jd jdt_Sp_first 48 rfl) rfl rfl (by decide) rfl rfl) ?_
                    refine J_mono (w_goto C (jd jdt_Sp_first 49 rfl) rfl) ?_
                    exact J_sub (ih (x3 + 1)) ⟨rfl, rfl, rfl, rfl, trivial⟩
          refine J_sb (fun (q13 : Unit) => Wk p l e R s m args below meth c G 4 Q 0 0 jN0 (jce G M) 95 [none, none, none, none] []) (J_sub (L44 a0 a1 a2 hp0 jfuel 0) ⟨rfl, rfl, rfl, rfl, trivial⟩) (fun q13 => ?_)
          refine J_mono (w_iconst_m1 C (jd jdt_Sp_first 50 rfl)) ?_
          exact J_some (fun hx => hR (-1) hx _ _ (jd jdt_Sp_first 51 rfl) rfl)
end
theorem C_Sp_first (l : Launch) (G : JG) (F : jF G = false) (a0 : Nat) (a1 : Int32) (a2 : Int32) (hp0 : jkd a0 11) (M : SM) {q : Int32} (hf : f_Sp_first a0 a1 a2 M = some q) : jMet l jy_Sp_first jb_Sp_first 4 (some FieldType.int) 4 0 0 G [.ref a0, .int a1, .int a2] jN0 (jce G M) (some (.int q)) jN0 (jce G M) :=
  j_met jo_Sp_first (by decide) (Nat.le_of_ble_eq_true rfl) (fun p e s m args below meth c C hr hm => K_Sp_first C F (Nat.le_refl _) a0 a1 a2 hp0 M (fun t => t = q) (fun v hX pc ls hd hn => by cases hX; exact w_iret C hr hn hd) _ hf rfl)
def lp_Sp_turning_54 (y0 : Nat) (y2 : Int32) (y3 : Int32) (y4 : Int32) (M : SM) : Nat → Int32 → Int32 → Option (Int32)
  | 0, _, _ => none
  | n + 1, x5, x6 => if y2 < x6 then (some x5) else ((f_Ru_water (jpf y0 6) x6 y3 M).bind fun q8 => (if q8 < y4 then (some x5) else (some (x5 + 1)) : Option (Int32)).bind fun q9 => lp_Sp_turning_54 y0 y2 y3 y4 M n q9 (x6 + 1))
def f_Sp_turning (a0 : Nat) (a1 : Int32) (a2 : Int32) (M : SM) : Option Int32 := (f_St_holds (jpf (jop (M.1 a0 8)) 10) a1 M).bind fun q1 => if q1 = 0 then (some (-1)) else ((f_Sp_isBar a2).bind fun q3 => if q3 = 0 then (some (-1)) else ((f_St_cellOfOne (jpf (jop (M.1 a0 8)) 10) a1 M).bind fun q5 => (f_St_amountOf (jpf (jop (M.1 a0 8)) 10) a1 M).bind fun q6 => (lp_Sp_turning_54 a0 a2 q5 q6 M jfuel 0 0).bind fun q11 => some q11))
section
variable {p : Program} {l : Launch} {e : Env} {R : Room} {s : State} {m : MethodId} {args : Array Value} {below : List Frame} {meth : Method} {c : Code} {G : JG} {D : Nat} {Q : State → Prop}
set_option maxHeartbeats 4000000 in
set_option maxRecDepth 20000 in
theorem K_Sp_turning (C : jCx p R s m args meth c G jb_Sp_turning 7 D "SluicePit") (F : jF G = false) (hD : 3 ≤ D) (a0 : Nat) (a1 : Int32) (a2 : Int32) (hp0 : jkd a0 11) (M : SM) (X : Int32 → Prop) (hR : ∀ v, X v → ∀ (pc : Nat) (ls : List (Option Value)), decode jb_Sp_turning pc = .ok (.ireturn, 1) → narrow FieldType.int (.int v) = .int v → Wk p l e R s m args below meth c G 7 Q 0 0 jN0 (jce G M) pc ls [.int v]) : J X (f_Sp_turning a0 a1 a2 M) (Wk p l e R s m args below meth c G 7 Q 0 0 jN0 (jce G M) 0 [some (.ref a0), some (.int a1), some (.int a2), none, none, none, none] []) := by
  unfold f_Sp_turning
  refine J_mono (w_aload_n C (jd jdt_Sp_turning 0 rfl) rfl) ?_
  refine J_mono (jg_Sp_37 C hp0 (jd jdt_Sp_turning 1 rfl)) ?_
  refine J_mono (jg_Sp_142 C (jop_kd _) (jd jdt_Sp_turning 2 rfl)) ?_
  refine J_mono (w_iload_n C (jd jdt_Sp_turning 3 rfl) rfl) ?_
  refine J_bind (fun q1 hq1 => ?_)
  refine J_mono (jc_Sp_225 C (jkf_1_10 (jop_kd _)) (C_St_holds l G F (jpf (jop (M.1 a0 8)) 10) a1 (jkf_1_10 (jop_kd _)) M hq1) rfl (Nat.le_trans (Nat.le_of_ble_eq_true rfl : 1 + 1 ≤ 3) hD) (jd jdt_Sp_turning 4 rfl)) ?_
  refine J_br (w_if_eq (y := 0) C (jd jdt_Sp_turning 5 rfl) rfl) (fun h2 => J_pos h2 ?_) (fun h2 => J_neg h2 ?_)
  · refine J_mono (w_iconst_m1 C (jd jdt_Sp_turning 9 rfl)) ?_
    exact J_some (fun hx => hR (-1) hx _ _ (jd jdt_Sp_turning 10 rfl) rfl)
  · refine J_mono (w_iload_n C (jd jdt_Sp_turning 6 rfl) rfl) ?_
    refine J_bind (fun q3 hq3 => ?_)
    refine J_mono (jc_Sp_208 C (C_Sp_isBar l G F a2 M hq3) rfl (Nat.le_trans (Nat.le_of_ble_eq_true rfl : 1 + 1 ≤ 3) hD) (jd jdt_Sp_turning 7 rfl)) ?_
    refine J_br (w_if_ne (y := 0) C (jd jdt_Sp_turning 8 rfl) rfl) (fun h4 => J_pos h4 ?_) (fun h4 => J_neg h4 ?_)
    · refine J_mono (w_iconst_m1 C (jd jdt_Sp_turning 9 rfl)) ?_
      exact J_some (fun hx => hR (-1) hx _ _ (jd jdt_Sp_turning 10 rfl) rfl)
    · refine J_mono (w_aload_n C (jd jdt_Sp_turning 11 rfl) rfl) ?_
      refine J_mono (jg_Sp_37 C hp0 (jd jdt_Sp_turning 12 rfl)) ?_
      refine J_mono (jg_Sp_142 C (jop_kd _) (jd jdt_Sp_turning 13 rfl)) ?_
      refine J_mono (w_iload_n C (jd jdt_Sp_turning 14 rfl) rfl) ?_
      refine J_bind (fun q5 hq5 => ?_)
      refine J_mono (jc_Sp_238 C (jkf_1_10 (jop_kd _)) (C_St_cellOfOne l G F (jpf (jop (M.1 a0 8)) 10) a1 (jkf_1_10 (jop_kd _)) M hq5) rfl (Nat.le_trans (Nat.le_of_ble_eq_true rfl : 2 + 1 ≤ 3) hD) (jd jdt_Sp_turning 15 rfl)) ?_
      refine J_mono (w_istore_n (ls' := [some (.ref a0), some (.int a1), some (.int a2), some (.int q5), none, none, none]) C (jd jdt_Sp_turning 16 rfl) (by decide) rfl rfl) ?_
      refine J_mono (w_aload_n C (jd jdt_Sp_turning 17 rfl) rfl) ?_
      refine J_mono (jg_Sp_37 C hp0 (jd jdt_Sp_turning 18 rfl)) ?_
      refine J_mono (jg_Sp_142 C (jop_kd _) (jd jdt_Sp_turning 19 rfl)) ?_
      refine J_mono (w_iload_n C (jd jdt_Sp_turning 20 rfl) rfl) ?_
      refine J_bind (fun q6 hq6 => ?_)
      refine J_mono (jc_Sp_235 C (jkf_1_10 (jop_kd _)) (C_St_amountOf l G F (jpf (jop (M.1 a0 8)) 10) a1 (jkf_1_10 (jop_kd _)) M hq6) rfl (Nat.le_trans (Nat.le_of_ble_eq_true rfl : 2 + 1 ≤ 3) hD) (jd jdt_Sp_turning 21 rfl)) ?_
      refine J_mono (w_istore (ls' := [some (.ref a0), some (.int a1), some (.int a2), some (.int q5), some (.int q6), none, none]) C (jd jdt_Sp_turning 22 rfl) (by decide) rfl rfl) ?_
      refine J_mono (w_iconst_0 C (jd jdt_Sp_turning 23 rfl)) ?_
      refine J_mono (w_istore (ls' := [some (.ref a0), some (.int a1), some (.int a2), some (.int q5), some (.int q6), some (.int 0), none]) C (jd jdt_Sp_turning 24 rfl) (by decide) rfl rfl) ?_
      refine J_mono (w_iconst_0 C (jd jdt_Sp_turning 25 rfl)) ?_
      refine J_mono (w_istore (ls' := [some (.ref a0), some (.int a1), some (.int a2), some (.int q5), some (.int q6), some (.int 0), some (.int 0)]) C (jd jdt_Sp_turning 26 rfl) (by decide) rfl rfl) ?_
      have L54 : ∀ (y0 : Nat) (y2 : Int32) (y3 : Int32) (y4 : Int32) (hy0 : jkd y0 11) (n : Nat) (x5 : Int32) (x6 : Int32), J (fun (q11 : Int32) => Wk p l e R s m args below meth c G 7 Q 0 0 jN0 (jce G M) 84 [none, none, none, none, none, some (.int q11), none] []) (lp_Sp_turning_54 y0 y2 y3 y4 M n x5 x6) (Wk p l e R s m args below meth c G 7 Q 0 0 jN0 (jce G M) 54 [some (.ref y0), none, some (.int y2), some (.int y3), some (.int y4), some (.int x5), some (.int x6)] []) := by
        intro y0 y2 y3 y4 hy0 n
        induction n with
        | zero => intro x5 x6; exact J_none
        | succ n ih =>
          intro x5 x6
          unfold lp_Sp_turning_54
          refine J_mono (w_iload C (jd jdt_Sp_turning 27 rfl) rfl) ?_
          refine J_mono (w_iload_n C (jd jdt_Sp_turning 28 rfl) rfl) ?_
          refine J_br (w_icmp_gt C (jd jdt_Sp_turning 29 rfl) rfl) (fun h7 => J_pos h7 ?_) (fun h7 => J_neg h7 ?_)
          · exact J_some (fun hx => Wk_sb hx ⟨rfl, trivial⟩)
          · refine J_mono (w_aload_n C (jd jdt_Sp_turning 30 rfl) rfl) ?_
            refine J_mono (jg_Sp_63 C hy0 (jd jdt_Sp_turning 31 rfl)) ?_
            refine J_mono (w_iload C (jd jdt_Sp_turning 32 rfl) rfl) ?_
            refine J_mono (w_iload_n C (jd jdt_Sp_turning 33 rfl) rfl) ?_
            refine J_bind (fun q8 hq8 => ?_)
            refine J_mono (jc_Sp_211 C (jkf_11_6 hy0) (C_Ru_water l G F (jpf y0 6) x6 y3 (jkf_11_6 hy0) M hq8) rfl (Nat.le_trans (Nat.le_of_ble_eq_true rfl : 2 + 1 ≤ 3) hD) (jd jdt_Sp_turning 34 rfl)) ?_
            refine J_mono (w_iload C (jd jdt_Sp_turning 35 rfl) rfl) ?_
            refine J_seq (fun (q9 : Int32) => Wk p l e R s m args below meth c G 7 Q 0 0 jN0 (jce G M) 78 [some (.ref y0), none, some (.int y2), some (.int y3), some (.int y4), some (.int q9), some (.int x6)] []) ?_ (fun q9 hq9 => ?_)
            · refine J_br (w_icmp_lt C (jd jdt_Sp_turning 36 rfl) rfl) (fun h10 => J_pos h10 ?_) (fun h10 => J_neg h10 ?_)
              · exact J_some (fun hx => Wk_sb hx ⟨rfl, rfl, rfl, rfl, rfl, rfl, trivial⟩)
              · refine J_mono (w_iinc (v := x5 + 1) (ls' := [some (.ref y0), none, some (.int y2), some (.int y3), some (.int y4), some (.int (x5 + 1)), some (.int x6)]) C (jd jdt_Sp_turning 37 rfl) rfl rfl (by decide) rfl rfl) ?_
                exact J_some (fun hx => Wk_sb hx ⟨rfl, rfl, rfl, rfl, rfl, rfl, trivial⟩)
            · refine J_mono (w_iinc (v := x6 + 1) (ls' := [some (.ref y0), none, some (.int y2), some (.int y3), some (.int y4), some (.int q9), some (.int (x6 + 1))]) C (jd jdt_Sp_turning 38 rfl) rfl rfl (by decide) rfl rfl) ?_
              refine J_mono (w_goto C (jd jdt_Sp_turning 39 rfl) rfl) ?_
              exact J_sub (ih q9 (x6 + 1)) ⟨rfl, rfl, rfl, rfl, rfl, rfl, trivial⟩
      refine J_seq (fun (q11 : Int32) => Wk p l e R s m args below meth c G 7 Q 0 0 jN0 (jce G M) 84 [none, none, none, none, none, some (.int q11), none] []) (J_sub (L54 a0 a2 q5 q6 hp0 jfuel 0 0) ⟨rfl, rfl, rfl, rfl, rfl, rfl, trivial⟩) (fun q11 hq11 => ?_)
      refine J_mono (w_iload C (jd jdt_Sp_turning 40 rfl) rfl) ?_
      exact J_some (fun hx => hR q11 hx _ _ (jd jdt_Sp_turning 41 rfl) rfl)
end
theorem C_Sp_turning (l : Launch) (G : JG) (F : jF G = false) (a0 : Nat) (a1 : Int32) (a2 : Int32) (hp0 : jkd a0 11) (M : SM) {q : Int32} (hf : f_Sp_turning a0 a1 a2 M = some q) : jMet l jy_Sp_turning jb_Sp_turning 7 (some FieldType.int) 3 0 0 G [.ref a0, .int a1, .int a2] jN0 (jce G M) (some (.int q)) jN0 (jce G M) :=
  j_met jo_Sp_turning (by decide) (Nat.le_of_ble_eq_true rfl) (fun p e s m args below meth c C hr hm => K_Sp_turning C F (Nat.le_refl _) a0 a1 a2 hp0 M (fun t => t = q) (fun v hX pc ls hd hn => by cases hX; exact w_iret C hr hn hd) _ hf rfl)
def lp_Ac_keep_30 (y0 : Nat) (y1 : Nat) (y2 : Int32) : Nat → Int32 → SM → Option (SM)
  | 0, _, _ => none
  | n + 1, x3, M => if 60 < x3 then (some M) else ((f_Pa_act y1 y2 x3 M).bind fun q5 => (f_Sp_putCell (jpf y0 2) (M.1 y0 3) (x3 - 1) q5 M).bind fun q6 => lp_Ac_keep_30 y0 y1 y2 n (x3 + 1) q6)
def f_Ac_keep (a0 : Nat) (a1 : Nat) (a2 : Int32) (M : SM) : Option SM := (f_Sp_put (jpf a0 0) (M.1 a0 3) a2 M).bind fun q1 => (f_Pa_size a1 a2 q1).bind fun q2 => (f_Sp_put (jpf a0 1) (q1.1 a0 3) q2 q1).bind fun q3 => (lp_Ac_keep_30 a0 a1 a2 jfuel 1 q3).bind fun q7 => (if ((q7.1 a0 3) + 1) < 20 then (some ((q7.1 a0 3) + 1)) else (some 0) : Option (Int32)).bind fun q8 => some (sI (sI q7 a0 3 q8) a0 4 (jmin 20 (((sI q7 a0 3 q8).1 a0 4) + 1)))
section
variable {p : Program} {l : Launch} {e : Env} {R : Room} {s : State} {m : MethodId} {args : Array Value} {below : List Frame} {meth : Method} {c : Code} {G : JG} {D : Nat} {Q : State → Prop}
set_option maxHeartbeats 4000000 in
set_option maxRecDepth 20000 in
theorem K_Ac_keep (C : jCx p R s m args meth c G jb_Ac_keep 4 D "SluicePit$Acts") (F : jF G = false) (hD : 7 ≤ D) (a0 : Nat) (a1 : Nat) (a2 : Int32) (hp0 : jkd a0 0) (hp1 : jkd a1 4) (M : SM) (X : SM → Prop) (hR : ∀ M', X M' → ∀ (pc : Nat) (ls : List (Option Value)), decode jb_Ac_keep pc = .ok (.return_, 1) → Wk p l e R s m args below meth c G 4 Q 0 0 jN0 (jce G M') pc ls []) : J X (f_Ac_keep a0 a1 a2 M) (Wk p l e R s m args below meth c G 4 Q 0 0 jN0 (jce G M) 0 [some (.ref a0), some (.ref a1), some (.int a2), none] []) := by
  unfold f_Ac_keep
  refine J_mono (w_aload_n C (jd jdt_Ac_keep 0 rfl) rfl) ?_
  refine J_mono (jg_Ac_9 C hp0 (jd jdt_Ac_keep 1 rfl)) ?_
  refine J_mono (w_aload_n C (jd jdt_Ac_keep 2 rfl) rfl) ?_
  refine J_mono (jg_Ac_26 C hp0 (jd jdt_Ac_keep 3 rfl)) ?_
  refine J_mono (w_iload_n C (jd jdt_Ac_keep 4 rfl) rfl) ?_
  refine J_bind (fun q1 hq1 => ?_)
  refine J_mono (jc_Ac_33 C (C_Sp_put l G F (jpf a0 0) (M.1 a0 3) a2 (jkf_0_0 hp0) M hq1) rfl (Nat.le_trans (Nat.le_of_ble_eq_true rfl : 1 + 1 ≤ 7) hD) (jd jdt_Ac_keep 5 rfl)) ?_
  refine J_mono (w_aload_n C (jd jdt_Ac_keep 6 rfl) rfl) ?_
  refine J_mono (jg_Ac_15 C hp0 (jd jdt_Ac_keep 7 rfl)) ?_
  refine J_mono (w_aload_n C (jd jdt_Ac_keep 8 rfl) rfl) ?_
  refine J_mono (jg_Ac_26 C hp0 (jd jdt_Ac_keep 9 rfl)) ?_
  refine J_mono (w_aload_n C (jd jdt_Ac_keep 10 rfl) rfl) ?_
  refine J_mono (w_iload_n C (jd jdt_Ac_keep 11 rfl) rfl) ?_
  refine J_bind (fun q2 hq2 => ?_)
  refine J_mono (jc_Ac_37 C hp1 (C_Pa_size l G F a1 a2 hp1 q1 hq2) rfl (Nat.le_trans (Nat.le_of_ble_eq_true rfl : 2 + 1 ≤ 7) hD) (jd jdt_Ac_keep 12 rfl)) ?_
  refine J_bind (fun q3 hq3 => ?_)
  refine J_mono (jc_Ac_33 C (C_Sp_put l G F (jpf a0 1) (q1.1 a0 3) q2 (jkf_0_1 hp0) q1 hq3) rfl (Nat.le_trans (Nat.le_of_ble_eq_true rfl : 1 + 1 ≤ 7) hD) (jd jdt_Ac_keep 13 rfl)) ?_
  refine J_mono (w_iconst_1 C (jd jdt_Ac_keep 14 rfl)) ?_
  refine J_mono (w_istore_n (ls' := [some (.ref a0), some (.ref a1), some (.int a2), some (.int 1)]) C (jd jdt_Ac_keep 15 rfl) (by decide) rfl rfl) ?_
  have L30 : ∀ (y0 : Nat) (y1 : Nat) (y2 : Int32) (hy0 : jkd y0 0) (hy1 : jkd y1 4) (n : Nat) (x3 : Int32) (M : SM), J (fun (q7 : SM) => Wk p l e R s m args below meth c G 4 Q 0 0 jN0 (jce G q7) 62 [some (.ref y0), none, none, none] []) (lp_Ac_keep_30 y0 y1 y2 n x3 M) (Wk p l e R s m args below meth c G 4 Q 0 0 jN0 (jce G M) 30 [some (.ref y0), some (.ref y1), some (.int y2), some (.int x3)] []) := by
    intro y0 y1 y2 hy0 hy1 n
    induction n with
    | zero => intro x3 M; exact J_none
    | succ n ih =>
      intro x3 M
      unfold lp_Ac_keep_30
      refine J_mono (w_iload_n C (jd jdt_Ac_keep 16 rfl) rfl) ?_
      refine J_mono (w_bipush_60 C (jd jdt_Ac_keep 17 rfl)) ?_
      refine J_br (w_icmp_gt C (jd jdt_Ac_keep 18 rfl) rfl) (fun h4 => J_pos h4 ?_) (fun h4 => J_neg h4 ?_)
      · exact J_some (fun hx => Wk_sb hx ⟨rfl, trivial⟩)
      · refine J_mono (w_aload_n C (jd jdt_Ac_keep 19 rfl) rfl) ?_
        refine J_mono (jg_Ac_20 C hy0 (jd jdt_Ac_keep 20 rfl)) ?_
        refine J_mono (w_aload_n C (jd jdt_Ac_keep 21 rfl) rfl) ?_
        refine J_mono (jg_Ac_26 C hy0 (jd jdt_Ac_keep 22 rfl)) ?_
        refine J_mono (w_iload_n C (jd jdt_Ac_keep 23 rfl) rfl) ?_
        refine J_mono (w_iconst_1 C (jd jdt_Ac_keep 24 rfl)) ?_
        refine J_mono (w_isub C (jd jdt_Ac_keep 25 rfl)) ?_
        refine J_mono (w_aload_n C (jd jdt_Ac_keep 26 rfl) rfl) ?_
        refine J_mono (w_iload_n C (jd jdt_Ac_keep 27 rfl) rfl) ?_
        refine J_mono (w_iload_n C (jd jdt_Ac_keep 28 rfl) rfl) ?_
        refine J_bind (fun q5 hq5 => ?_)
        refine J_mono (jc_Ac_43 C hy1 (C_Pa_act l G F y1 y2 x3 hy1 M hq5) rfl (Nat.le_trans (Nat.le_of_ble_eq_true rfl : 2 + 1 ≤ 7) hD) (jd jdt_Ac_keep 29 rfl)) ?_
        refine J_bind (fun q6 hq6 => ?_)
        refine J_mono (jc_Ac_47 C (C_Sp_putCell l G F (jpf y0 2) (M.1 y0 3) (x3 - 1) q5 (jkf_0_2 hy0) M hq6) rfl (Nat.le_trans (Nat.le_of_ble_eq_true rfl : 1 + 1 ≤ 7) hD) (jd jdt_Ac_keep 30 rfl)) ?_
        refine J_mono (w_iinc (v := x3 + 1) (ls' := [some (.ref y0), some (.ref y1), some (.int y2), some (.int (x3 + 1))]) C (jd jdt_Ac_keep 31 rfl) rfl rfl (by decide) rfl rfl) ?_
        refine J_mono (w_goto C (jd jdt_Ac_keep 32 rfl) rfl) ?_
        exact J_sub (ih (x3 + 1) q6) ⟨rfl, rfl, rfl, rfl, trivial⟩
  refine J_seq (fun (q7 : SM) => Wk p l e R s m args below meth c G 4 Q 0 0 jN0 (jce G q7) 62 [some (.ref a0), none, none, none] []) (J_sub (L30 a0 a1 a2 hp0 hp1 jfuel 1 q3) ⟨rfl, rfl, rfl, rfl, trivial⟩) (fun q7 hq7 => ?_)
  refine J_mono (w_aload_n C (jd jdt_Ac_keep 33 rfl) rfl) ?_
  refine J_mono (w_aload_n C (jd jdt_Ac_keep 34 rfl) rfl) ?_
  refine J_mono (jg_Ac_26 C hp0 (jd jdt_Ac_keep 35 rfl)) ?_
  refine J_mono (w_iconst_1 C (jd jdt_Ac_keep 36 rfl)) ?_
  refine J_mono (w_iadd C (jd jdt_Ac_keep 37 rfl)) ?_
  refine J_mono (w_bipush_20 C (jd jdt_Ac_keep 38 rfl)) ?_
  refine J_seq (fun (q8 : Int32) => Wk p l e R s m args below meth c G 4 Q 0 0 jN0 (jce G q7) 84 [some (.ref a0), none, none, none] [.int q8, .ref a0]) ?_ (fun q8 hq8 => ?_)
  · refine J_br (w_icmp_ge C (jd jdt_Ac_keep 39 rfl) rfl) (fun h9 => J_pos h9 ?_) (fun h9 => J_neg h9 ?_)
    · refine J_mono (w_aload_n C (jd jdt_Ac_keep 40 rfl) rfl) ?_
      refine J_mono (jg_Ac_26 C hp0 (jd jdt_Ac_keep 41 rfl)) ?_
      refine J_mono (w_iconst_1 C (jd jdt_Ac_keep 42 rfl)) ?_
      refine J_mono (w_iadd C (jd jdt_Ac_keep 43 rfl)) ?_
      refine J_mono (w_goto C (jd jdt_Ac_keep 44 rfl) rfl) ?_
      exact J_some (fun hx => Wk_sb hx ⟨rfl, trivial⟩)
    · refine J_mono (w_iconst_0 C (jd jdt_Ac_keep 45 rfl)) ?_
      exact J_some (fun hx => Wk_sb hx ⟨rfl, trivial⟩)
  · refine J_mono (jp_Ac_26 C F hp0 (jd jdt_Ac_keep 46 rfl)) ?_
    refine J_mono (w_aload_n C (jd jdt_Ac_keep 47 rfl) rfl) ?_
    refine J_mono (w_bipush_20 C (jd jdt_Ac_keep 48 rfl)) ?_
    refine J_mono (w_aload_n C (jd jdt_Ac_keep 49 rfl) rfl) ?_
    refine J_mono (jg_Ac_30 C hp0 (jd jdt_Ac_keep 50 rfl)) ?_
    refine J_mono (w_iconst_1 C (jd jdt_Ac_keep 51 rfl)) ?_
    refine J_mono (w_iadd C (jd jdt_Ac_keep 52 rfl)) ?_
    refine J_mono (w_mmin C (Nat.zero_le _) (Nat.zero_le _) (Nat.le_of_ble_eq_true rfl) jw_899 (jd jdt_Ac_keep 53 rfl)) ?_
    refine J_mono (jp_Ac_30 C F hp0 (jd jdt_Ac_keep 54 rfl)) ?_
    exact J_some (fun hx => hR (sI (sI q7 a0 3 q8) a0 4 (jmin 20 (((sI q7 a0 3 q8).1 a0 4) + 1))) hx _ _ (jd jdt_Ac_keep 55 rfl))
end
theorem C_Ac_keep (l : Launch) (G : JG) (F : jF G = false) (a0 : Nat) (a1 : Nat) (a2 : Int32) (hp0 : jkd a0 0) (hp1 : jkd a1 4) (M : SM) {q : SM} (hf : f_Ac_keep a0 a1 a2 M = some q) : jMet l jy_Ac_keep jb_Ac_keep 4 none 7 0 0 G [.ref a0, .ref a1, .int a2] jN0 (jce G M) none jN0 (jce G q) :=
  j_met jo_Ac_keep (by decide) (Nat.le_of_ble_eq_true rfl) (fun p e s m args below meth c C hr hm => K_Ac_keep C F (Nat.le_refl _) a0 a1 a2 hp0 hp1 M (fun t => t = q) (fun M' hX pc ls hd => by cases hX; exact w_vret C hr hd) _ hf rfl)
def f_Pa_setAct (a0 : Nat) (a1 : Int32) (a2 : Int32) (a3 : Int32) (M : SM) : Option SM := (f_Sp_putCell (jpf a0 0) a1 (a2 - 1) a3 M).bind fun q1 => some q1
section
variable {p : Program} {l : Launch} {e : Env} {R : Room} {s : State} {m : MethodId} {args : Array Value} {below : List Frame} {meth : Method} {c : Code} {G : JG} {D : Nat} {Q : State → Prop}
set_option maxHeartbeats 4000000 in
set_option maxRecDepth 20000 in
theorem K_Pa_setAct (C : jCx p R s m args meth c G jb_Pa_setAct 4 D "SluicePit$Parts") (F : jF G = false) (hD : 2 ≤ D) (a0 : Nat) (a1 : Int32) (a2 : Int32) (a3 : Int32) (hp0 : jkd a0 4) (M : SM) (X : SM → Prop) (hR : ∀ M', X M' → ∀ (pc : Nat) (ls : List (Option Value)), decode jb_Pa_setAct pc = .ok (.return_, 1) → Wk p l e R s m args below meth c G 4 Q 0 0 jN0 (jce G M') pc ls []) : J X (f_Pa_setAct a0 a1 a2 a3 M) (Wk p l e R s m args below meth c G 4 Q 0 0 jN0 (jce G M) 0 [some (.ref a0), some (.int a1), some (.int a2), some (.int a3)] []) := by
  unfold f_Pa_setAct
  refine J_mono (w_aload_n C (jd jdt_Pa_setAct 0 rfl) rfl) ?_
  refine J_mono (jg_Pa_11 C hp0 (jd jdt_Pa_setAct 1 rfl)) ?_
  refine J_mono (w_iload_n C (jd jdt_Pa_setAct 2 rfl) rfl) ?_
  refine J_mono (w_iload_n C (jd jdt_Pa_setAct 3 rfl) rfl) ?_
  refine J_mono (w_iconst_1 C (jd jdt_Pa_setAct 4 rfl)) ?_
  refine J_mono (w_isub C (jd jdt_Pa_setAct 5 rfl)) ?_
  refine J_mono (w_iload_n C (jd jdt_Pa_setAct 6 rfl) rfl) ?_
  refine J_bind (fun q1 hq1 => ?_)
  refine J_mono (jc_Pa_32 C (C_Sp_putCell l G F (jpf a0 0) a1 (a2 - 1) a3 (jkf_4_0 hp0) M hq1) rfl (Nat.le_trans (Nat.le_of_ble_eq_true rfl : 1 + 1 ≤ 2) hD) (jd jdt_Pa_setAct 7 rfl)) ?_
  exact J_some (fun hx => hR q1 hx _ _ (jd jdt_Pa_setAct 8 rfl))
end
theorem C_Pa_setAct (l : Launch) (G : JG) (F : jF G = false) (a0 : Nat) (a1 : Int32) (a2 : Int32) (a3 : Int32) (hp0 : jkd a0 4) (M : SM) {q : SM} (hf : f_Pa_setAct a0 a1 a2 a3 M = some q) : jMet l jy_Pa_setAct jb_Pa_setAct 4 none 2 0 0 G [.ref a0, .int a1, .int a2, .int a3] jN0 (jce G M) none jN0 (jce G q) :=
  j_met jo_Pa_setAct (by decide) (Nat.le_of_ble_eq_true rfl) (fun p e s m args below meth c C hr hm => K_Pa_setAct C F (Nat.le_refl _) a0 a1 a2 a3 hp0 M (fun t => t = q) (fun M' hX pc ls hd => by cases hX; exact w_vret C hr hd) _ hf rfl)
def lp_Pa_setActs_6 (y0 : Nat) (y1 : Int32) (y3 : Int32) (y4 : Int32) (M : SM) : Nat → Int32 → Int32 → Option (Int32)
  | 0, _, _ => none
  | n + 1, x5, x6 => if y3 < x6 then (some x5) else ((f_Pa_act y0 y1 x6 M).bind fun q2 => (if q2 = y4 then (some x5) else (some (x5 + 1)) : Option (Int32)).bind fun q3 => lp_Pa_setActs_6 y0 y1 y3 y4 M n q3 (x6 + 1))
def lp_Pa_setActs_42 (y0 : Nat) (y1 : Int32) (y2 : Int32) : Nat → Int32 → SM → Option (SM)
  | 0, _, _ => none
  | n + 1, x6, M => if x6 < y2 then ((f_Pa_setAct y0 y1 x6 2 M).bind fun q8 => lp_Pa_setActs_42 y0 y1 y2 n (x6 + 1) q8) else (some M)
def lp_Pa_setActs_65 (y0 : Nat) (y1 : Int32) (y3 : Int32) (y4 : Int32) : Nat → Int32 → SM → Option (SM)
  | 0, _, _ => none
  | n + 1, x6, M => if y3 < x6 then (some M) else ((f_Pa_setAct y0 y1 x6 y4 M).bind fun q11 => lp_Pa_setActs_65 y0 y1 y3 y4 n (x6 + 1) q11)
def f_Pa_setActs (a0 : Nat) (a1 : Int32) (a2 : Int32) (a3 : Int32) (a4 : Int32) (M : SM) : Option (Int32 × SM) := (lp_Pa_setActs_6 a0 a1 a3 a4 M jfuel 0 a2).bind fun q5 => (f_Pa_size a0 a1 M).bind fun q6 => (lp_Pa_setActs_42 a0 a1 a2 jfuel (q6 + 1) M).bind fun q9 => (lp_Pa_setActs_65 a0 a1 a3 a4 jfuel a2 q9).bind fun q12 => (f_Pa_size a0 a1 q12).bind fun q13 => (f_Pa_setSize a0 a1 (jmax q13 a3) q12).bind fun q14 => some (q5, q14)
section
variable {p : Program} {l : Launch} {e : Env} {R : Room} {s : State} {m : MethodId} {args : Array Value} {below : List Frame} {meth : Method} {c : Code} {G : JG} {D : Nat} {Q : State → Prop}
set_option maxHeartbeats 4000000 in
set_option maxRecDepth 20000 in
theorem K_Pa_setActs (C : jCx p R s m args meth c G jb_Pa_setActs 7 D "SluicePit$Parts") (F : jF G = false) (hD : 7 ≤ D) (a0 : Nat) (a1 : Int32) (a2 : Int32) (a3 : Int32) (a4 : Int32) (hp0 : jkd a0 4) (M : SM) (X : (Int32 × SM) → Prop) (hR : ∀ v M', X (v, M') → ∀ (pc : Nat) (ls : List (Option Value)), decode jb_Pa_setActs pc = .ok (.ireturn, 1) → narrow FieldType.int (.int v) = .int v → Wk p l e R s m args below meth c G 7 Q 0 0 jN0 (jce G M') pc ls [.int v]) : J X (f_Pa_setActs a0 a1 a2 a3 a4 M) (Wk p l e R s m args below meth c G 7 Q 0 0 jN0 (jce G M) 0 [some (.ref a0), some (.int a1), some (.int a2), some (.int a3), some (.int a4), none, none] []) := by
  unfold f_Pa_setActs
  refine J_mono (w_iconst_0 C (jd jdt_Pa_setActs 0 rfl)) ?_
  refine J_mono (w_istore (ls' := [some (.ref a0), some (.int a1), some (.int a2), some (.int a3), some (.int a4), some (.int 0), none]) C (jd jdt_Pa_setActs 1 rfl) (by decide) rfl rfl) ?_
  refine J_mono (w_iload_n C (jd jdt_Pa_setActs 2 rfl) rfl) ?_
  refine J_mono (w_istore (ls' := [some (.ref a0), some (.int a1), some (.int a2), some (.int a3), some (.int a4), some (.int 0), some (.int a2)]) C (jd jdt_Pa_setActs 3 rfl) (by decide) rfl rfl) ?_
  have L6 : ∀ (y0 : Nat) (y1 : Int32) (y2 : Int32) (y3 : Int32) (y4 : Int32) (hy0 : jkd y0 4) (M : SM) (n : Nat) (x5 : Int32) (x6 : Int32), J (fun (q5 : Int32) => Wk p l e R s m args below meth c G 7 Q 0 0 jN0 (jce G M) 33 [some (.ref y0), some (.int y1), some (.int y2), some (.int y3), some (.int y4), some (.int q5), none] []) (lp_Pa_setActs_6 y0 y1 y3 y4 M n x5 x6) (Wk p l e R s m args below meth c G 7 Q 0 0 jN0 (jce G M) 6 [some (.ref y0), some (.int y1), some (.int y2), some (.int y3), some (.int y4), some (.int x5), some (.int x6)] []) := by
    intro y0 y1 y2 y3 y4 hy0 M n
    induction n with
    | zero => intro x5 x6; exact J_none
    | succ n ih =>
      intro x5 x6
      unfold lp_Pa_setActs_6
      refine J_mono (w_iload C (jd jdt_Pa_setActs 4 rfl) rfl) ?_
      refine J_mono (w_iload_n C (jd jdt_Pa_setActs 5 rfl) rfl) ?_
      refine J_br (w_icmp_gt C (jd jdt_Pa_setActs 6 rfl) rfl) (fun h1 => J_pos h1 ?_) (fun h1 => J_neg h1 ?_)
      · exact J_some (fun hx => Wk_sb hx ⟨rfl, rfl, rfl, rfl, rfl, rfl, trivial⟩)
      · refine J_mono (w_aload_n C (jd jdt_Pa_setActs 7 rfl) rfl) ?_
        refine J_mono (w_iload_n C (jd jdt_Pa_setActs 8 rfl) rfl) ?_
        refine J_mono (w_iload C (jd jdt_Pa_setActs 9 rfl) rfl) ?_
        refine J_bind (fun q2 hq2 => ?_)
        refine J_mono (jc_Pa_40 C hy0 (C_Pa_act l G F y0 y1 x6 hy0 M hq2) rfl (Nat.le_trans (Nat.le_of_ble_eq_true rfl : 2 + 1 ≤ 7) hD) (jd jdt_Pa_setActs 10 rfl)) ?_
        refine J_mono (w_iload C (jd jdt_Pa_setActs 11 rfl) rfl) ?_
        refine J_seq (fun (q3 : Int32) => Wk p l e R s m args below meth c G 7 Q 0 0 jN0 (jce G M) 27 [some (.ref y0), some (.int y1), some (.int y2), some (.int y3), some (.int y4), some (.int q3), some (.int x6)] []) ?_ (fun q3 hq3 => ?_)
        · refine J_br (w_icmp_eq C (jd jdt_Pa_setActs 12 rfl) rfl) (fun h4 => J_pos h4 ?_) (fun h4 => J_neg h4 ?_)
          · exact J_some (fun hx => Wk_sb hx ⟨rfl, rfl, rfl, rfl, rfl, rfl, rfl, trivial⟩)
          · refine J_mono (w_iinc (v := x5 + 1) (ls' := [some (.ref y0), some (.int y1), some (.int y2), some (.int y3), some (.int y4), some (.int (x5 + 1)), some (.int x6)]) C (jd jdt_Pa_setActs 13 rfl) rfl rfl (by decide) rfl rfl) ?_
            exact J_some (fun hx => Wk_sb hx ⟨rfl, rfl, rfl, rfl, rfl, rfl, rfl, trivial⟩)
        · refine J_mono (w_iinc (v := x6 + 1) (ls' := [some (.ref y0), some (.int y1), some (.int y2), some (.int y3), some (.int y4), some (.int q3), some (.int (x6 + 1))]) C (jd jdt_Pa_setActs 14 rfl) rfl rfl (by decide) rfl rfl) ?_
          refine J_mono (w_goto C (jd jdt_Pa_setActs 15 rfl) rfl) ?_
          exact J_sub (ih q3 (x6 + 1)) ⟨rfl, rfl, rfl, rfl, rfl, rfl, rfl, trivial⟩
  refine J_seq (fun (q5 : Int32) => Wk p l e R s m args below meth c G 7 Q 0 0 jN0 (jce G M) 33 [some (.ref a0), some (.int a1), some (.int a2), some (.int a3), some (.int a4), some (.int q5), none] []) (J_sub (L6 a0 a1 a2 a3 a4 hp0 M jfuel 0 a2) ⟨rfl, rfl, rfl, rfl, rfl, rfl, rfl, trivial⟩) (fun q5 hq5 => ?_)
  refine J_mono (w_aload_n C (jd jdt_Pa_setActs 16 rfl) rfl) ?_
  refine J_mono (w_iload_n C (jd jdt_Pa_setActs 17 rfl) rfl) ?_
  refine J_bind (fun q6 hq6 => ?_)
  refine J_mono (jc_Pa_44 C hp0 (C_Pa_size l G F a0 a1 hp0 M hq6) rfl (Nat.le_trans (Nat.le_of_ble_eq_true rfl : 2 + 1 ≤ 7) hD) (jd jdt_Pa_setActs 18 rfl)) ?_
  refine J_mono (w_iconst_1 C (jd jdt_Pa_setActs 19 rfl)) ?_
  refine J_mono (w_iadd C (jd jdt_Pa_setActs 20 rfl)) ?_
  refine J_mono (w_istore (ls' := [some (.ref a0), some (.int a1), some (.int a2), some (.int a3), some (.int a4), some (.int q5), some (.int (q6 + 1))]) C (jd jdt_Pa_setActs 21 rfl) (by decide) rfl rfl) ?_
  have L42 : ∀ (y0 : Nat) (y1 : Int32) (y2 : Int32) (y3 : Int32) (y4 : Int32) (y5 : Int32) (hy0 : jkd y0 4) (n : Nat) (x6 : Int32) (M : SM), J (fun (q9 : SM) => Wk p l e R s m args below meth c G 7 Q 0 0 jN0 (jce G q9) 62 [some (.ref y0), some (.int y1), some (.int y2), some (.int y3), some (.int y4), some (.int y5), none] []) (lp_Pa_setActs_42 y0 y1 y2 n x6 M) (Wk p l e R s m args below meth c G 7 Q 0 0 jN0 (jce G M) 42 [some (.ref y0), some (.int y1), some (.int y2), some (.int y3), some (.int y4), some (.int y5), some (.int x6)] []) := by
    intro y0 y1 y2 y3 y4 y5 hy0 n
    induction n with
    | zero => intro x6 M; exact J_none
    | succ n ih =>
      intro x6 M
      unfold lp_Pa_setActs_42
      refine J_mono (w_iload C (jd jdt_Pa_setActs 22 rfl) rfl) ?_
      refine J_mono (w_iload_n C (jd jdt_Pa_setActs 23 rfl) rfl) ?_
      refine J_br (w_icmp_ge C (jd jdt_Pa_setActs 24 rfl) rfl) (fun h7 => J_pos h7 ?_) (fun h7 => J_neg h7 ?_)
      · refine J_mono (w_aload_n C (jd jdt_Pa_setActs 25 rfl) rfl) ?_
        refine J_mono (w_iload_n C (jd jdt_Pa_setActs 26 rfl) rfl) ?_
        refine J_mono (w_iload C (jd jdt_Pa_setActs 27 rfl) rfl) ?_
        refine J_mono (w_iconst_2 C (jd jdt_Pa_setActs 28 rfl)) ?_
        refine J_bind (fun q8 hq8 => ?_)
        refine J_mono (jc_Pa_48 C hy0 (C_Pa_setAct l G F y0 y1 x6 2 hy0 M hq8) rfl (Nat.le_trans (Nat.le_of_ble_eq_true rfl : 2 + 1 ≤ 7) hD) (jd jdt_Pa_setActs 29 rfl)) ?_
        refine J_mono (w_iinc (v := x6 + 1) (ls' := [some (.ref y0), some (.int y1), some (.int y2), some (.int y3), some (.int y4), some (.int y5), some (.int (x6 + 1))]) C (jd jdt_Pa_setActs 30 rfl) rfl rfl (by decide) rfl rfl) ?_
        refine J_mono (w_goto C (jd jdt_Pa_setActs 31 rfl) rfl) ?_
        exact J_sub (ih (x6 + 1) q8) ⟨rfl, rfl, rfl, rfl, rfl, rfl, rfl, trivial⟩
      · exact J_some (fun hx => Wk_sb hx ⟨rfl, rfl, rfl, rfl, rfl, rfl, trivial⟩)
  refine J_seq (fun (q9 : SM) => Wk p l e R s m args below meth c G 7 Q 0 0 jN0 (jce G q9) 62 [some (.ref a0), some (.int a1), some (.int a2), some (.int a3), some (.int a4), some (.int q5), none] []) (J_sub (L42 a0 a1 a2 a3 a4 q5 hp0 jfuel (q6 + 1) M) ⟨rfl, rfl, rfl, rfl, rfl, rfl, rfl, trivial⟩) (fun q9 hq9 => ?_)
  refine J_mono (w_iload_n C (jd jdt_Pa_setActs 32 rfl) rfl) ?_
  refine J_mono (w_istore (ls' := [some (.ref a0), some (.int a1), some (.int a2), some (.int a3), some (.int a4), some (.int q5), some (.int a2)]) C (jd jdt_Pa_setActs 33 rfl) (by decide) rfl rfl) ?_
  have L65 : ∀ (y0 : Nat) (y1 : Int32) (y3 : Int32) (y4 : Int32) (y5 : Int32) (hy0 : jkd y0 4) (n : Nat) (x6 : Int32) (M : SM), J (fun (q12 : SM) => Wk p l e R s m args below meth c G 7 Q 0 0 jN0 (jce G q12) 86 [some (.ref y0), some (.int y1), none, some (.int y3), none, some (.int y5), none] []) (lp_Pa_setActs_65 y0 y1 y3 y4 n x6 M) (Wk p l e R s m args below meth c G 7 Q 0 0 jN0 (jce G M) 65 [some (.ref y0), some (.int y1), none, some (.int y3), some (.int y4), some (.int y5), some (.int x6)] []) := by
    intro y0 y1 y3 y4 y5 hy0 n
    induction n with
    | zero => intro x6 M; exact J_none
    | succ n ih =>
      intro x6 M
      unfold lp_Pa_setActs_65
      refine J_mono (w_iload C (jd jdt_Pa_setActs 34 rfl) rfl) ?_
      refine J_mono (w_iload_n C (jd jdt_Pa_setActs 35 rfl) rfl) ?_
      refine J_br (w_icmp_gt C (jd jdt_Pa_setActs 36 rfl) rfl) (fun h10 => J_pos h10 ?_) (fun h10 => J_neg h10 ?_)
      · exact J_some (fun hx => Wk_sb hx ⟨rfl, rfl, rfl, rfl, trivial⟩)
      · refine J_mono (w_aload_n C (jd jdt_Pa_setActs 37 rfl) rfl) ?_
        refine J_mono (w_iload_n C (jd jdt_Pa_setActs 38 rfl) rfl) ?_
        refine J_mono (w_iload C (jd jdt_Pa_setActs 39 rfl) rfl) ?_
        refine J_mono (w_iload C (jd jdt_Pa_setActs 40 rfl) rfl) ?_
        refine J_bind (fun q11 hq11 => ?_)
        refine J_mono (jc_Pa_48 C hy0 (C_Pa_setAct l G F y0 y1 x6 y4 hy0 M hq11) rfl (Nat.le_trans (Nat.le_of_ble_eq_true rfl : 2 + 1 ≤ 7) hD) (jd jdt_Pa_setActs 41 rfl)) ?_
        refine J_mono (w_iinc (v := x6 + 1) (ls' := [some (.ref y0), some (.int y1), none, some (.int y3), some (.int y4), some (.int y5), some (.int (x6 + 1))]) C (jd jdt_Pa_setActs 42 rfl) rfl rfl (by decide) rfl rfl) ?_
        refine J_mono (w_goto C (jd jdt_Pa_setActs 43 rfl) rfl) ?_
        exact J_sub (ih (x6 + 1) q11) ⟨rfl, rfl, rfl, rfl, rfl, rfl, trivial⟩
  refine J_seq (fun (q12 : SM) => Wk p l e R s m args below meth c G 7 Q 0 0 jN0 (jce G q12) 86 [some (.ref a0), some (.int a1), none, some (.int a3), none, some (.int q5), none] []) (J_sub (L65 a0 a1 a3 a4 q5 hp0 jfuel a2 q9) ⟨rfl, rfl, rfl, rfl, rfl, rfl, trivial⟩) (fun q12 hq12 => ?_)
  refine J_mono (w_aload_n C (jd jdt_Pa_setActs 44 rfl) rfl) ?_
  refine J_mono (w_iload_n C (jd jdt_Pa_setActs 45 rfl) rfl) ?_
  refine J_mono (w_aload_n C (jd jdt_Pa_setActs 46 rfl) rfl) ?_
  refine J_mono (w_iload_n C (jd jdt_Pa_setActs 47 rfl) rfl) ?_
  refine J_bind (fun q13 hq13 => ?_)
  refine J_mono (jc_Pa_44 C hp0 (C_Pa_size l G F a0 a1 hp0 q12 hq13) rfl (Nat.le_trans (Nat.le_of_ble_eq_true rfl : 2 + 1 ≤ 7) hD) (jd jdt_Pa_setActs 48 rfl)) ?_
  refine J_mono (w_iload_n C (jd jdt_Pa_setActs 49 rfl) rfl) ?_
  refine J_mono (w_mmax C (Nat.zero_le _) (Nat.zero_le _) (Nat.le_of_ble_eq_true rfl) jw_814 (jd jdt_Pa_setActs 50 rfl)) ?_
  refine J_bind (fun q14 hq14 => ?_)
  refine J_mono (jc_Pa_36 C hp0 (C_Pa_setSize l G F a0 a1 (jmax q13 a3) hp0 q12 hq14) rfl (Nat.le_trans (Nat.le_of_ble_eq_true rfl : 2 + 1 ≤ 7) hD) (jd jdt_Pa_setActs 51 rfl)) ?_
  refine J_mono (w_iload C (jd jdt_Pa_setActs 52 rfl) rfl) ?_
  exact J_some (fun hx => hR q5 q14 hx _ _ (jd jdt_Pa_setActs 53 rfl) rfl)
end
theorem C_Pa_setActs (l : Launch) (G : JG) (F : jF G = false) (a0 : Nat) (a1 : Int32) (a2 : Int32) (a3 : Int32) (a4 : Int32) (hp0 : jkd a0 4) (M : SM) {q : (Int32 × SM)} (hf : f_Pa_setActs a0 a1 a2 a3 a4 M = some q) : jMet l jy_Pa_setActs jb_Pa_setActs 7 (some FieldType.int) 7 0 0 G [.ref a0, .int a1, .int a2, .int a3, .int a4] jN0 (jce G M) (some (.int q.1)) jN0 (jce G q.2) :=
  j_met jo_Pa_setActs (by decide) (Nat.le_of_ble_eq_true rfl) (fun p e s m args below meth c C hr hm => K_Pa_setActs C F (Nat.le_refl _) a0 a1 a2 a3 a4 hp0 M (fun t => t = q) (fun v M' hX pc ls hd hn => by cases hX; exact w_iret C hr hn hd) _ hf rfl)
def f_Sp_mark (a0 : Nat) (a1 : Int32) (a2 : Int32) (a3 : Int32) (a4 : Int32) (M : SM) : Option (Int32 × SM) := (f_Sp_isDesk a0 a1 M).bind fun q1 => if q1 = 0 then (some ((-1), M)) else (if a2 < 1 then (some ((-1), M)) else (if 60 < a3 then (some ((-1), M)) else (if a3 < a2 then (some ((-1), M)) else ((f_Ac_keep (jpf a0 5) (jpf (jop (M.1 a0 8)) 13) a1 M).bind fun q6 => (if a4 = 0 then (some 2) else (some 0) : Option (Int32)).bind fun q7 => (f_Pa_setActs (jpf (jop (q6.1 a0 8)) 13) a1 a2 a3 q7 q6).bind fun q9 => (f_Ru_playAll (jpf a0 6) (jop (q9.2.1 a0 8)) (jpf a0 7) q9.2).bind fun q10 => some (q9.1, q10)))))
section
variable {p : Program} {l : Launch} {e : Env} {R : Room} {s : State} {m : MethodId} {args : Array Value} {below : List Frame} {meth : Method} {c : Code} {G : JG} {D : Nat} {Q : State → Prop}
set_option maxHeartbeats 4000000 in
set_option maxRecDepth 20000 in
theorem K_Sp_mark (C : jCx p R s m args meth c G jb_Sp_mark 6 D "SluicePit") (F : jF G = false) (hD : 10 ≤ D) (a0 : Nat) (a1 : Int32) (a2 : Int32) (a3 : Int32) (a4 : Int32) (hp0 : jkd a0 11) (M : SM) (X : (Int32 × SM) → Prop) (hR : ∀ v M', X (v, M') → ∀ (pc : Nat) (ls : List (Option Value)), decode jb_Sp_mark pc = .ok (.ireturn, 1) → narrow FieldType.int (.int v) = .int v → Wk p l e R s m args below meth c G 6 Q 0 0 jN0 (jce G M') pc ls [.int v]) : J X (f_Sp_mark a0 a1 a2 a3 a4 M) (Wk p l e R s m args below meth c G 6 Q 0 0 jN0 (jce G M) 0 [some (.ref a0), some (.int a1), some (.int a2), some (.int a3), some (.int a4), none] []) := by
  unfold f_Sp_mark
  refine J_mono (w_aload_n C (jd jdt_Sp_mark 0 rfl) rfl) ?_
  refine J_mono (w_iload_n C (jd jdt_Sp_mark 1 rfl) rfl) ?_
  refine J_bind (fun q1 hq1 => ?_)
  refine J_mono (jc_Sp_189 C hp0 (C_Sp_isDesk l G F a0 a1 hp0 M hq1) rfl (Nat.le_trans (Nat.le_of_ble_eq_true rfl : 1 + 1 ≤ 10) hD) (jd jdt_Sp_mark 2 rfl)) ?_
  refine J_br (w_if_eq (y := 0) C (jd jdt_Sp_mark 3 rfl) rfl) (fun h2 => J_pos h2 ?_) (fun h2 => J_neg h2 ?_)
  · refine J_mono (w_iconst_m1 C (jd jdt_Sp_mark 13 rfl)) ?_
    exact J_some (fun hx => hR (-1) M hx _ _ (jd jdt_Sp_mark 14 rfl) rfl)
  · refine J_mono (w_iload_n C (jd jdt_Sp_mark 4 rfl) rfl) ?_
    refine J_mono (w_iconst_1 C (jd jdt_Sp_mark 5 rfl)) ?_
    refine J_br (w_icmp_lt C (jd jdt_Sp_mark 6 rfl) rfl) (fun h3 => J_pos h3 ?_) (fun h3 => J_neg h3 ?_)
    · refine J_mono (w_iconst_m1 C (jd jdt_Sp_mark 13 rfl)) ?_
      exact J_some (fun hx => hR (-1) M hx _ _ (jd jdt_Sp_mark 14 rfl) rfl)
    · refine J_mono (w_iload_n C (jd jdt_Sp_mark 7 rfl) rfl) ?_
      refine J_mono (w_bipush_60 C (jd jdt_Sp_mark 8 rfl)) ?_
      refine J_br (w_icmp_gt C (jd jdt_Sp_mark 9 rfl) rfl) (fun h4 => J_pos h4 ?_) (fun h4 => J_neg h4 ?_)
      · refine J_mono (w_iconst_m1 C (jd jdt_Sp_mark 13 rfl)) ?_
        exact J_some (fun hx => hR (-1) M hx _ _ (jd jdt_Sp_mark 14 rfl) rfl)
      · refine J_mono (w_iload_n C (jd jdt_Sp_mark 10 rfl) rfl) ?_
        refine J_mono (w_iload_n C (jd jdt_Sp_mark 11 rfl) rfl) ?_
        refine J_br (w_icmp_le C (jd jdt_Sp_mark 12 rfl) rfl) (fun h5 => J_pos h5 ?_) (fun h5 => J_neg h5 ?_)
        · refine J_mono (w_iconst_m1 C (jd jdt_Sp_mark 13 rfl)) ?_
          exact J_some (fun hx => hR (-1) M hx _ _ (jd jdt_Sp_mark 14 rfl) rfl)
        · refine J_mono (w_aload_n C (jd jdt_Sp_mark 15 rfl) rfl) ?_
          refine J_mono (jg_Sp_56 C hp0 (jd jdt_Sp_mark 16 rfl)) ?_
          refine J_mono (w_aload_n C (jd jdt_Sp_mark 17 rfl) rfl) ?_
          refine J_mono (jg_Sp_37 C hp0 (jd jdt_Sp_mark 18 rfl)) ?_
          refine J_mono (jg_Sp_163 C (jop_kd _) (jd jdt_Sp_mark 19 rfl)) ?_
          refine J_mono (w_iload_n C (jd jdt_Sp_mark 20 rfl) rfl) ?_
          refine J_bind (fun q6 hq6 => ?_)
          refine J_mono (jc_Sp_241 C (jkf_11_5 hp0) (C_Ac_keep l G F (jpf a0 5) (jpf (jop (M.1 a0 8)) 13) a1 (jkf_11_5 hp0) (jkf_1_13 (jop_kd _)) M hq6) rfl (Nat.le_trans (Nat.le_of_ble_eq_true rfl : 7 + 1 ≤ 10) hD) (jd jdt_Sp_mark 21 rfl)) ?_
          refine J_mono (w_aload_n C (jd jdt_Sp_mark 22 rfl) rfl) ?_
          refine J_mono (jg_Sp_37 C hp0 (jd jdt_Sp_mark 23 rfl)) ?_
          refine J_mono (jg_Sp_163 C (jop_kd _) (jd jdt_Sp_mark 24 rfl)) ?_
          refine J_mono (w_iload_n C (jd jdt_Sp_mark 25 rfl) rfl) ?_
          refine J_mono (w_iload_n C (jd jdt_Sp_mark 26 rfl) rfl) ?_
          refine J_mono (w_iload_n C (jd jdt_Sp_mark 27 rfl) rfl) ?_
          refine J_mono (w_iload C (jd jdt_Sp_mark 28 rfl) rfl) ?_
          refine J_seq (fun (q7 : Int32) => Wk p l e R s m args below meth c G 6 Q 0 0 jN0 (jce G q6) 61 [some (.ref a0), none, none, none, none, none] [.int q7, .int a3, .int a2, .int a1, .ref (jpf (jop (q6.1 a0 8)) 13)]) ?_ (fun q7 hq7 => ?_)
          · refine J_br (w_if_eq (y := 0) C (jd jdt_Sp_mark 29 rfl) rfl) (fun h8 => J_pos h8 ?_) (fun h8 => J_neg h8 ?_)
            · refine J_mono (w_iconst_2 C (jd jdt_Sp_mark 32 rfl)) ?_
              exact J_some (fun hx => Wk_sb hx ⟨rfl, trivial⟩)
            · refine J_mono (w_iconst_0 C (jd jdt_Sp_mark 30 rfl)) ?_
              refine J_mono (w_goto C (jd jdt_Sp_mark 31 rfl) rfl) ?_
              exact J_some (fun hx => Wk_sb hx ⟨rfl, trivial⟩)
          · refine J_bind (fun q9 hq9 => ?_)
            refine J_mono (jc_Sp_245 C (jkf_1_13 (jop_kd _)) (C_Pa_setActs l G F (jpf (jop (q6.1 a0 8)) 13) a1 a2 a3 q7 (jkf_1_13 (jop_kd _)) q6 hq9) rfl (Nat.le_trans (Nat.le_of_ble_eq_true rfl : 7 + 1 ≤ 10) hD) (jd jdt_Sp_mark 33 rfl)) ?_
            refine J_mono (w_istore (ls' := [some (.ref a0), none, none, none, none, some (.int q9.1)]) C (jd jdt_Sp_mark 34 rfl) (by decide) rfl rfl) ?_
            refine J_mono (w_aload_n C (jd jdt_Sp_mark 35 rfl) rfl) ?_
            refine J_mono (jg_Sp_63 C hp0 (jd jdt_Sp_mark 36 rfl)) ?_
            refine J_mono (w_aload_n C (jd jdt_Sp_mark 37 rfl) rfl) ?_
            refine J_mono (jg_Sp_37 C hp0 (jd jdt_Sp_mark 38 rfl)) ?_
            refine J_mono (w_aload_n C (jd jdt_Sp_mark 39 rfl) rfl) ?_
            refine J_mono (jg_Sp_70 C hp0 (jd jdt_Sp_mark 40 rfl)) ?_
            refine J_bind (fun q10 hq10 => ?_)
            refine J_mono (jc_Sp_119 C (jkf_11_6 hp0) (C_Ru_playAll l G F (jpf a0 6) (jop (q9.2.1 a0 8)) (jpf a0 7) (jkf_11_6 hp0) (jop_kd _) (jkf_11_7 hp0) q9.2 hq10) rfl (Nat.le_trans (Nat.le_of_ble_eq_true rfl : 9 + 1 ≤ 10) hD) (jd jdt_Sp_mark 41 rfl)) ?_
            refine J_mono (w_iload C (jd jdt_Sp_mark 42 rfl) rfl) ?_
            exact J_some (fun hx => hR q9.1 q10 hx _ _ (jd jdt_Sp_mark 43 rfl) rfl)
end
theorem C_Sp_mark (l : Launch) (G : JG) (F : jF G = false) (a0 : Nat) (a1 : Int32) (a2 : Int32) (a3 : Int32) (a4 : Int32) (hp0 : jkd a0 11) (M : SM) {q : (Int32 × SM)} (hf : f_Sp_mark a0 a1 a2 a3 a4 M = some q) : jMet l jy_Sp_mark jb_Sp_mark 6 (some FieldType.int) 10 0 0 G [.ref a0, .int a1, .int a2, .int a3, .int a4] jN0 (jce G M) (some (.int q.1)) jN0 (jce G q.2) :=
  j_met jo_Sp_mark (by decide) (Nat.le_of_ble_eq_true rfl) (fun p e s m args below meth c C hr hm => K_Sp_mark C F (Nat.le_refl _) a0 a1 a2 a3 a4 hp0 M (fun t => t = q) (fun v M' hX pc ls hd hn => by cases hX; exact w_iret C hr hn hd) _ hf rfl)
def f_Re_ended (a0 : Nat) (M : SM) : Option (Int32 × SM) := if (M.1 a0 1) = 0 then (some (1, M)) else ((f_Re_refuse a0 M).bind fun q2 => if q2.1 = 0 then (some (0, q2.2)) else (some (1, q2.2)))
section
variable {p : Program} {l : Launch} {e : Env} {R : Room} {s : State} {m : MethodId} {args : Array Value} {below : List Frame} {meth : Method} {c : Code} {G : JG} {D : Nat} {Q : State → Prop}
set_option maxHeartbeats 4000000 in
set_option maxRecDepth 20000 in
theorem K_Re_ended (C : jCx p R s m args meth c G jb_Re_ended 1 D "SluicePit$Reader") (F : jF G = false) (hD : 3 ≤ D) (a0 : Nat) (hp0 : jkd a0 7) (M : SM) (X : (Int32 × SM) → Prop) (hR : ∀ v M', X (v, M') → ∀ (pc : Nat) (ls : List (Option Value)), decode jb_Re_ended pc = .ok (.ireturn, 1) → narrow FieldType.boolean (.int v) = .int v → Wk p l e R s m args below meth c G 1 Q 0 0 jN0 (jce G M') pc ls [.int v]) : J X (f_Re_ended a0 M) (Wk p l e R s m args below meth c G 1 Q 0 0 jN0 (jce G M) 0 [some (.ref a0)] []) := by
  unfold f_Re_ended
  refine J_mono (w_aload_n C (jd jdt_Re_ended 0 rfl) rfl) ?_
  refine J_mono (jg_Re_19 C hp0 (jd jdt_Re_ended 1 rfl)) ?_
  refine J_br (w_if_eq (y := 0) C (jd jdt_Re_ended 2 rfl) rfl) (fun h1 => J_pos h1 ?_) (fun h1 => J_neg h1 ?_)
  · refine J_mono (w_iconst_1 C (jd jdt_Re_ended 6 rfl)) ?_
    refine J_mono (w_goto C (jd jdt_Re_ended 7 rfl) rfl) ?_
    exact J_some (fun hx => hR 1 M hx _ _ (jd jdt_Re_ended 9 rfl) rfl)
  · refine J_mono (w_aload_n C (jd jdt_Re_ended 3 rfl) rfl) ?_
    refine J_bind (fun q2 hq2 => ?_)
    refine J_mono (jc_Re_83 C hp0 (C_Re_refuse l G F a0 hp0 M hq2) rfl (Nat.le_trans (Nat.le_of_ble_eq_true rfl : 2 + 1 ≤ 3) hD) (jd jdt_Re_ended 4 rfl)) ?_
    refine J_br (w_if_eq (y := 0) C (jd jdt_Re_ended 5 rfl) rfl) (fun h3 => J_pos h3 ?_) (fun h3 => J_neg h3 ?_)
    · refine J_mono (w_iconst_0 C (jd jdt_Re_ended 8 rfl)) ?_
      exact J_some (fun hx => hR 0 q2.2 hx _ _ (jd jdt_Re_ended 9 rfl) rfl)
    · refine J_mono (w_iconst_1 C (jd jdt_Re_ended 6 rfl)) ?_
      refine J_mono (w_goto C (jd jdt_Re_ended 7 rfl) rfl) ?_
      exact J_some (fun hx => hR 1 q2.2 hx _ _ (jd jdt_Re_ended 9 rfl) rfl)
end
theorem C_Re_ended (l : Launch) (G : JG) (F : jF G = false) (a0 : Nat) (hp0 : jkd a0 7) (M : SM) {q : (Int32 × SM)} (hf : f_Re_ended a0 M = some q) : jMet l jy_Re_ended jb_Re_ended 1 (some FieldType.boolean) 3 0 0 G [.ref a0] jN0 (jce G M) (some (.int q.1)) jN0 (jce G q.2) :=
  j_met jo_Re_ended (by decide) (Nat.le_of_ble_eq_true rfl) (fun p e s m args below meth c C hr hm => K_Re_ended C F (Nat.le_refl _) a0 hp0 M (fun t => t = q) (fun v M' hX pc ls hd hn => by cases hX; exact w_iret C hr hn hd) _ hf rfl)
def f_Sp_teach (a0 : Nat) (a1 : Int32) (M : SM) : Option (Int32 × SM) := (f_Sp_isDesk a0 a1 M).bind fun q1 => if q1 = 0 then (some ((-1), sI M (jpf a0 0) 1 0)) else ((f_Re_begin (jpf a0 1) M).bind fun q3 => ((f_Pr_part 40) (jpf a0 2) 0 (sI q3 (jpf a0 2) 2 0)).bind fun q4 => (if q4.1 = 0 then (some (0, q4.2)) else ((f_Re_ended (jpf a0 1) q4.2).bind fun q7 => if q7.1 = 0 then (some (0, q7.2)) else (some (1, q7.2))) : Option (Int32 × SM)).bind fun q5 => if q5.1 = 0 then (some ((-1), sI q5.2 (jpf a0 0) 1 0)) else ((f_Ac_keep (jpf a0 5) (jpf (jop ((sI q5.2 (jpf a0 0) 1 0).1 a0 8)) 13) a1 (sI q5.2 (jpf a0 0) 1 0)).bind fun q10 => (f_Pa_setPart (jpf (jop (q10.1 a0 8)) 13) a1 (jpf (jpf a0 2) 1) (q10.1 (jpf a0 2) 2) q10).bind fun q11 => (f_Ru_playAll (jpf a0 6) (jop (q11.1 a0 8)) (jpf a0 7) q11).bind fun q12 => some (q12.1 (jpf a0 2) 2, q12)))
section
variable {p : Program} {l : Launch} {e : Env} {R : Room} {s : State} {m : MethodId} {args : Array Value} {below : List Frame} {meth : Method} {c : Code} {G : JG} {D : Nat} {Q : State → Prop}
set_option maxHeartbeats 4000000 in
set_option maxRecDepth 20000 in
theorem K_Sp_teach (C : jCx p R s m args meth c G jb_Sp_teach 3 D "SluicePit") (F : jF G = false) (hD : 50 ≤ D) (a0 : Nat) (a1 : Int32) (hp0 : jkd a0 11) (M : SM) (X : (Int32 × SM) → Prop) (hR : ∀ v M', X (v, M') → ∀ (pc : Nat) (ls : List (Option Value)), decode jb_Sp_teach pc = .ok (.ireturn, 1) → narrow FieldType.int (.int v) = .int v → Wk p l e R s m args below meth c G 3 Q 0 0 jN0 (jce G M') pc ls [.int v]) : J X (f_Sp_teach a0 a1 M) (Wk p l e R s m args below meth c G 3 Q 0 0 jN0 (jce G M) 0 [some (.ref a0), some (.int a1), none] []) := by
  unfold f_Sp_teach
  refine J_mono (w_aload_n C (jd jdt_Sp_teach 0 rfl) rfl) ?_
  refine J_mono (w_iload_n C (jd jdt_Sp_teach 1 rfl) rfl) ?_
  refine J_bind (fun q1 hq1 => ?_)
  refine J_mono (jc_Sp_189 C hp0 (C_Sp_isDesk l G F a0 a1 hp0 M hq1) rfl (Nat.le_trans (Nat.le_of_ble_eq_true rfl : 1 + 1 ≤ 50) hD) (jd jdt_Sp_teach 2 rfl)) ?_
  refine J_br (w_if_ne (y := 0) C (jd jdt_Sp_teach 3 rfl) rfl) (fun h2 => J_pos h2 ?_) (fun h2 => J_neg h2 ?_)
  · refine J_mono (w_aload_n C (jd jdt_Sp_teach 4 rfl) rfl) ?_
    refine J_mono (jg_Sp_12 C hp0 (jd jdt_Sp_teach 5 rfl)) ?_
    refine J_mono (w_iconst_0 C (jd jdt_Sp_teach 6 rfl)) ?_
    refine J_mono (jp_Sp_102 C F (jkf_11_0 hp0) (jd jdt_Sp_teach 7 rfl)) ?_
    refine J_mono (w_iconst_m1 C (jd jdt_Sp_teach 8 rfl)) ?_
    exact J_some (fun hx => hR (-1) (sI M (jpf a0 0) 1 0) hx _ _ (jd jdt_Sp_teach 9 rfl) rfl)
  · refine J_mono (w_aload_n C (jd jdt_Sp_teach 10 rfl) rfl) ?_
    refine J_mono (jg_Sp_21 C hp0 (jd jdt_Sp_teach 11 rfl)) ?_
    refine J_bind (fun q3 hq3 => ?_)
    refine J_mono (jc_Sp_109 C (jkf_11_1 hp0) (C_Re_begin l G F (jpf a0 1) (jkf_11_1 hp0) M hq3) rfl (Nat.le_trans (Nat.le_of_ble_eq_true rfl : 3 + 1 ≤ 50) hD) (jd jdt_Sp_teach 12 rfl)) ?_
    refine J_mono (w_aload_n C (jd jdt_Sp_teach 13 rfl) rfl) ?_
    refine J_mono (jg_Sp_30 C hp0 (jd jdt_Sp_teach 14 rfl)) ?_
    refine J_mono (w_iconst_0 C (jd jdt_Sp_teach 15 rfl)) ?_
    refine J_mono (jp_Sp_249 C F (jkf_11_2 hp0) (jd jdt_Sp_teach 16 rfl)) ?_
    refine J_mono (w_aload_n C (jd jdt_Sp_teach 17 rfl) rfl) ?_
    refine J_mono (jg_Sp_30 C hp0 (jd jdt_Sp_teach 18 rfl)) ?_
    refine J_mono (w_iconst_0 C (jd jdt_Sp_teach 19 rfl)) ?_
    refine J_bind (fun q4 hq4 => ?_)
    refine J_mono (jc_Sp_250 C (jkf_11_2 hp0) (C_Pr_part l G F 40 (jpf a0 2) 0 (jkf_11_2 hp0) (sI q3 (jpf a0 2) 2 0) hq4) rfl (Nat.le_trans (Nat.le_of_ble_eq_true rfl : 49 + 1 ≤ 50) hD) (jd jdt_Sp_teach 20 rfl)) ?_
    refine J_seq (fun (q5 : Int32 × SM) => Wk p l e R s m args below meth c G 3 Q 0 0 jN0 (jce G q5.2) 59 [some (.ref a0), some (.int a1), none] [.int q5.1]) ?_ (fun q5 hq5 => ?_)
    · refine J_br (w_if_eq (y := 0) C (jd jdt_Sp_teach 21 rfl) rfl) (fun h6 => J_pos h6 ?_) (fun h6 => J_neg h6 ?_)
      · refine J_mono (w_iconst_0 C (jd jdt_Sp_teach 28 rfl)) ?_
        exact J_some (fun hx => Wk_sb hx ⟨rfl, rfl, trivial⟩)
      · refine J_mono (w_aload_n C (jd jdt_Sp_teach 22 rfl) rfl) ?_
        refine J_mono (jg_Sp_21 C hp0 (jd jdt_Sp_teach 23 rfl)) ?_
        refine J_bind (fun q7 hq7 => ?_)
        refine J_mono (jc_Sp_253 C (jkf_11_1 hp0) (C_Re_ended l G F (jpf a0 1) (jkf_11_1 hp0) q4.2 hq7) rfl (Nat.le_trans (Nat.le_of_ble_eq_true rfl : 3 + 1 ≤ 50) hD) (jd jdt_Sp_teach 24 rfl)) ?_
        refine J_br (w_if_eq (y := 0) C (jd jdt_Sp_teach 25 rfl) rfl) (fun h8 => J_pos h8 ?_) (fun h8 => J_neg h8 ?_)
        · refine J_mono (w_iconst_0 C (jd jdt_Sp_teach 28 rfl)) ?_
          exact J_some (fun hx => Wk_sb hx ⟨rfl, rfl, trivial⟩)
        · refine J_mono (w_iconst_1 C (jd jdt_Sp_teach 26 rfl)) ?_
          refine J_mono (w_goto C (jd jdt_Sp_teach 27 rfl) rfl) ?_
          exact J_some (fun hx => Wk_sb hx ⟨rfl, rfl, trivial⟩)
    · refine J_mono (w_istore_n (ls' := [some (.ref a0), some (.int a1), some (.int q5.1)]) C (jd jdt_Sp_teach 29 rfl) (by decide) rfl rfl) ?_
      refine J_mono (w_aload_n C (jd jdt_Sp_teach 30 rfl) rfl) ?_
      refine J_mono (jg_Sp_12 C hp0 (jd jdt_Sp_teach 31 rfl)) ?_
      refine J_mono (w_iconst_0 C (jd jdt_Sp_teach 32 rfl)) ?_
      refine J_mono (jp_Sp_102 C F (jkf_11_0 hp0) (jd jdt_Sp_teach 33 rfl)) ?_
      refine J_mono (w_iload_n C (jd jdt_Sp_teach 34 rfl) rfl) ?_
      refine J_br (w_if_ne (y := 0) C (jd jdt_Sp_teach 35 rfl) rfl) (fun h9 => J_pos h9 ?_) (fun h9 => J_neg h9 ?_)
      · refine J_mono (w_iconst_m1 C (jd jdt_Sp_teach 36 rfl)) ?_
        exact J_some (fun hx => hR (-1) (sI q5.2 (jpf a0 0) 1 0) hx _ _ (jd jdt_Sp_teach 37 rfl) rfl)
      · refine J_mono (w_aload_n C (jd jdt_Sp_teach 38 rfl) rfl) ?_
        refine J_mono (jg_Sp_56 C hp0 (jd jdt_Sp_teach 39 rfl)) ?_
        refine J_mono (w_aload_n C (jd jdt_Sp_teach 40 rfl) rfl) ?_
        refine J_mono (jg_Sp_37 C hp0 (jd jdt_Sp_teach 41 rfl)) ?_
        refine J_mono (jg_Sp_163 C (jop_kd _) (jd jdt_Sp_teach 42 rfl)) ?_
        refine J_mono (w_iload_n C (jd jdt_Sp_teach 43 rfl) rfl) ?_
        refine J_bind (fun q10 hq10 => ?_)
        refine J_mono (jc_Sp_241 C (jkf_11_5 hp0) (C_Ac_keep l G F (jpf a0 5) (jpf (jop ((sI q5.2 (jpf a0 0) 1 0).1 a0 8)) 13) a1 (jkf_11_5 hp0) (jkf_1_13 (jop_kd _)) (sI q5.2 (jpf a0 0) 1 0) hq10) rfl (Nat.le_trans (Nat.le_of_ble_eq_true rfl : 7 + 1 ≤ 50) hD) (jd jdt_Sp_teach 44 rfl)) ?_
        refine J_mono (w_aload_n C (jd jdt_Sp_teach 45 rfl) rfl) ?_
        refine J_mono (jg_Sp_37 C hp0 (jd jdt_Sp_teach 46 rfl)) ?_
        refine J_mono (jg_Sp_163 C (jop_kd _) (jd jdt_Sp_teach 47 rfl)) ?_
        refine J_mono (w_iload_n C (jd jdt_Sp_teach 48 rfl) rfl) ?_
        refine J_mono (w_aload_n C (jd jdt_Sp_teach 49 rfl) rfl) ?_
        refine J_mono (jg_Sp_30 C hp0 (jd jdt_Sp_teach 50 rfl)) ?_
        refine J_mono (jg_Sp_257 C (jkf_11_2 hp0) (jd jdt_Sp_teach 51 rfl)) ?_
        refine J_mono (w_aload_n C (jd jdt_Sp_teach 52 rfl) rfl) ?_
        refine J_mono (jg_Sp_30 C hp0 (jd jdt_Sp_teach 53 rfl)) ?_
        refine J_mono (jg_Sp_249 C (jkf_11_2 hp0) (jd jdt_Sp_teach 54 rfl)) ?_
        refine J_bind (fun q11 hq11 => ?_)
        refine J_mono (jc_Sp_260 C (jkf_1_13 (jop_kd _)) (C_Pa_setPart l G F (jpf (jop (q10.1 a0 8)) 13) a1 (jpf (jpf a0 2) 1) (q10.1 (jpf a0 2) 2) (jkf_1_13 (jop_kd _)) (jkf_3_1 (jkf_11_2 hp0)) q10 hq11) rfl (Nat.le_trans (Nat.le_of_ble_eq_true rfl : 3 + 1 ≤ 50) hD) (jd jdt_Sp_teach 55 rfl)) ?_
        refine J_mono (w_aload_n C (jd jdt_Sp_teach 56 rfl) rfl) ?_
        refine J_mono (jg_Sp_63 C hp0 (jd jdt_Sp_teach 57 rfl)) ?_
        refine J_mono (w_aload_n C (jd jdt_Sp_teach 58 rfl) rfl) ?_
        refine J_mono (jg_Sp_37 C hp0 (jd jdt_Sp_teach 59 rfl)) ?_
        refine J_mono (w_aload_n C (jd jdt_Sp_teach 60 rfl) rfl) ?_
        refine J_mono (jg_Sp_70 C hp0 (jd jdt_Sp_teach 61 rfl)) ?_
        refine J_bind (fun q12 hq12 => ?_)
        refine J_mono (jc_Sp_119 C (jkf_11_6 hp0) (C_Ru_playAll l G F (jpf a0 6) (jop (q11.1 a0 8)) (jpf a0 7) (jkf_11_6 hp0) (jop_kd _) (jkf_11_7 hp0) q11 hq12) rfl (Nat.le_trans (Nat.le_of_ble_eq_true rfl : 9 + 1 ≤ 50) hD) (jd jdt_Sp_teach 62 rfl)) ?_
        refine J_mono (w_aload_n C (jd jdt_Sp_teach 63 rfl) rfl) ?_
        refine J_mono (jg_Sp_30 C hp0 (jd jdt_Sp_teach 64 rfl)) ?_
        refine J_mono (jg_Sp_249 C (jkf_11_2 hp0) (jd jdt_Sp_teach 65 rfl)) ?_
        exact J_some (fun hx => hR (q12.1 (jpf a0 2) 2) q12 hx _ _ (jd jdt_Sp_teach 66 rfl) rfl)
end
theorem C_Sp_teach (l : Launch) (G : JG) (F : jF G = false) (a0 : Nat) (a1 : Int32) (hp0 : jkd a0 11) (M : SM) {q : (Int32 × SM)} (hf : f_Sp_teach a0 a1 M = some q) : jMet l jy_Sp_teach jb_Sp_teach 3 (some FieldType.int) 50 0 0 G [.ref a0, .int a1] jN0 (jce G M) (some (.int q.1)) jN0 (jce G q.2) :=
  j_met jo_Sp_teach (by decide) (Nat.le_of_ble_eq_true rfl) (fun p e s m args below meth c C hr hm => K_Sp_teach C F (Nat.le_refl _) a0 a1 hp0 M (fun t => t = q) (fun v M' hX pc ls hd hn => by cases hX; exact w_iret C hr hn hd) _ hf rfl)
def lp_Ac_takeBack_55 (y0 : Nat) (y1 : Nat) (y2 : Int32) : Nat → Int32 → SM → Option (SM)
  | 0, _, _ => none
  | n + 1, x3, M => if 60 < x3 then (some M) else ((f_Sp_cellOf (jpf y0 2) (M.1 y0 3) (x3 - 1) M).bind fun q6 => (f_Pa_setAct y1 y2 x3 q6 M).bind fun q7 => lp_Ac_takeBack_55 y0 y1 y2 n (x3 + 1) q7)
def f_Ac_takeBack (a0 : Nat) (a1 : Nat) (M : SM) : Option (Int32 × SM) := if (M.1 a0 4) = 0 then (some (0, M)) else ((if 0 < (M.1 a0 3) then (some ((M.1 a0 3) - 1)) else (some 19) : Option (Int32)).bind fun q2 => (f_Sp_at (jpf a0 0) ((sI (sI M a0 3 q2) a0 4 (((sI M a0 3 q2).1 a0 4) - 1)).1 a0 3) (sI (sI M a0 3 q2) a0 4 (((sI M a0 3 q2).1 a0 4) - 1))).bind fun q4 => (lp_Ac_takeBack_55 a0 a1 q4 jfuel 1 (sI (sI M a0 3 q2) a0 4 (((sI M a0 3 q2).1 a0 4) - 1))).bind fun q8 => (f_Sp_at (jpf a0 1) (q8.1 a0 3) q8).bind fun q9 => (f_Pa_setSize a1 q4 q9 q8).bind fun q10 => some (1, q10))
section
variable {p : Program} {l : Launch} {e : Env} {R : Room} {s : State} {m : MethodId} {args : Array Value} {below : List Frame} {meth : Method} {c : Code} {G : JG} {D : Nat} {Q : State → Prop}
set_option maxHeartbeats 4000000 in
set_option maxRecDepth 20000 in
theorem K_Ac_takeBack (C : jCx p R s m args meth c G jb_Ac_takeBack 4 D "SluicePit$Acts") (F : jF G = false) (hD : 3 ≤ D) (a0 : Nat) (a1 : Nat) (hp0 : jkd a0 0) (hp1 : jkd a1 4) (M : SM) (X : (Int32 × SM) → Prop) (hR : ∀ v M', X (v, M') → ∀ (pc : Nat) (ls : List (Option Value)), decode jb_Ac_takeBack pc = .ok (.ireturn, 1) → narrow FieldType.boolean (.int v) = .int v → Wk p l e R s m args below meth c G 4 Q 0 0 jN0 (jce G M') pc ls [.int v]) : J X (f_Ac_takeBack a0 a1 M) (Wk p l e R s m args below meth c G 4 Q 0 0 jN0 (jce G M) 0 [some (.ref a0), some (.ref a1), none, none] []) := by
  unfold f_Ac_takeBack
  refine J_mono (w_aload_n C (jd jdt_Ac_takeBack 0 rfl) rfl) ?_
  refine J_mono (jg_Ac_30 C hp0 (jd jdt_Ac_takeBack 1 rfl)) ?_
  refine J_br (w_if_ne (y := 0) C (jd jdt_Ac_takeBack 2 rfl) rfl) (fun h1 => J_pos h1 ?_) (fun h1 => J_neg h1 ?_)
  · refine J_mono (w_iconst_0 C (jd jdt_Ac_takeBack 3 rfl)) ?_
    exact J_some (fun hx => hR 0 M hx _ _ (jd jdt_Ac_takeBack 4 rfl) rfl)
  · refine J_mono (w_aload_n C (jd jdt_Ac_takeBack 5 rfl) rfl) ?_
    refine J_mono (w_aload_n C (jd jdt_Ac_takeBack 6 rfl) rfl) ?_
    refine J_mono (jg_Ac_26 C hp0 (jd jdt_Ac_takeBack 7 rfl)) ?_
    refine J_seq (fun (q2 : Int32) => Wk p l e R s m args below meth c G 4 Q 0 0 jN0 (jce G M) 28 [some (.ref a0), some (.ref a1), none, none] [.int q2, .ref a0]) ?_ (fun q2 hq2 => ?_)
    · refine J_br (w_if_le (y := 0) C (jd jdt_Ac_takeBack 8 rfl) rfl) (fun h3 => J_pos h3 ?_) (fun h3 => J_neg h3 ?_)
      · refine J_mono (w_aload_n C (jd jdt_Ac_takeBack 9 rfl) rfl) ?_
        refine J_mono (jg_Ac_26 C hp0 (jd jdt_Ac_takeBack 10 rfl)) ?_
        refine J_mono (w_iconst_1 C (jd jdt_Ac_takeBack 11 rfl)) ?_
        refine J_mono (w_isub C (jd jdt_Ac_takeBack 12 rfl)) ?_
        refine J_mono (w_goto C (jd jdt_Ac_takeBack 13 rfl) rfl) ?_
        exact J_some (fun hx => Wk_sb hx ⟨rfl, rfl, trivial⟩)
      · refine J_mono (w_bipush_19 C (jd jdt_Ac_takeBack 14 rfl)) ?_
        exact J_some (fun hx => Wk_sb hx ⟨rfl, rfl, trivial⟩)
    · refine J_mono (jp_Ac_26 C F hp0 (jd jdt_Ac_takeBack 15 rfl)) ?_
      refine J_mono (w_aload_n C (jd jdt_Ac_takeBack 16 rfl) rfl) ?_
      refine J_mono (w_dup_r C (jd jdt_Ac_takeBack 17 rfl)) ?_
      refine J_mono (jg_Ac_30 C hp0 (jd jdt_Ac_takeBack 18 rfl)) ?_
      refine J_mono (w_iconst_1 C (jd jdt_Ac_takeBack 19 rfl)) ?_
      refine J_mono (w_isub C (jd jdt_Ac_takeBack 20 rfl)) ?_
      refine J_mono (jp_Ac_30 C F hp0 (jd jdt_Ac_takeBack 21 rfl)) ?_
      refine J_mono (w_aload_n C (jd jdt_Ac_takeBack 22 rfl) rfl) ?_
      refine J_mono (jg_Ac_9 C hp0 (jd jdt_Ac_takeBack 23 rfl)) ?_
      refine J_mono (w_aload_n C (jd jdt_Ac_takeBack 24 rfl) rfl) ?_
      refine J_mono (jg_Ac_26 C hp0 (jd jdt_Ac_takeBack 25 rfl)) ?_
      refine J_bind (fun q4 hq4 => ?_)
      refine J_mono (jc_Ac_56 C (C_Sp_at l G F (jpf a0 0) ((sI (sI M a0 3 q2) a0 4 (((sI M a0 3 q2).1 a0 4) - 1)).1 a0 3) (jkf_0_0 hp0) (sI (sI M a0 3 q2) a0 4 (((sI M a0 3 q2).1 a0 4) - 1)) hq4) rfl (Nat.le_trans (Nat.le_of_ble_eq_true rfl : 1 + 1 ≤ 3) hD) (jd jdt_Ac_takeBack 26 rfl)) ?_
      refine J_mono (w_istore_n (ls' := [some (.ref a0), some (.ref a1), some (.int q4), none]) C (jd jdt_Ac_takeBack 27 rfl) (by decide) rfl rfl) ?_
      refine J_mono (w_iconst_1 C (jd jdt_Ac_takeBack 28 rfl)) ?_
      refine J_mono (w_istore_n (ls' := [some (.ref a0), some (.ref a1), some (.int q4), some (.int 1)]) C (jd jdt_Ac_takeBack 29 rfl) (by decide) rfl rfl) ?_
      have L55 : ∀ (y0 : Nat) (y1 : Nat) (y2 : Int32) (hy0 : jkd y0 0) (hy1 : jkd y1 4) (n : Nat) (x3 : Int32) (M : SM), J (fun (q8 : SM) => Wk p l e R s m args below meth c G 4 Q 0 0 jN0 (jce G q8) 87 [some (.ref y0), some (.ref y1), some (.int y2), none] []) (lp_Ac_takeBack_55 y0 y1 y2 n x3 M) (Wk p l e R s m args below meth c G 4 Q 0 0 jN0 (jce G M) 55 [some (.ref y0), some (.ref y1), some (.int y2), some (.int x3)] []) := by
        intro y0 y1 y2 hy0 hy1 n
        induction n with
        | zero => intro x3 M; exact J_none
        | succ n ih =>
          intro x3 M
          unfold lp_Ac_takeBack_55
          refine J_mono (w_iload_n C (jd jdt_Ac_takeBack 30 rfl) rfl) ?_
          refine J_mono (w_bipush_60 C (jd jdt_Ac_takeBack 31 rfl)) ?_
          refine J_br (w_icmp_gt C (jd jdt_Ac_takeBack 32 rfl) rfl) (fun h5 => J_pos h5 ?_) (fun h5 => J_neg h5 ?_)
          · exact J_some (fun hx => Wk_sb hx ⟨rfl, rfl, rfl, trivial⟩)
          · refine J_mono (w_aload_n C (jd jdt_Ac_takeBack 33 rfl) rfl) ?_
            refine J_mono (w_iload_n C (jd jdt_Ac_takeBack 34 rfl) rfl) ?_
            refine J_mono (w_iload_n C (jd jdt_Ac_takeBack 35 rfl) rfl) ?_
            refine J_mono (w_aload_n C (jd jdt_Ac_takeBack 36 rfl) rfl) ?_
            refine J_mono (jg_Ac_20 C hy0 (jd jdt_Ac_takeBack 37 rfl)) ?_
            refine J_mono (w_aload_n C (jd jdt_Ac_takeBack 38 rfl) rfl) ?_
            refine J_mono (jg_Ac_26 C hy0 (jd jdt_Ac_takeBack 39 rfl)) ?_
            refine J_mono (w_iload_n C (jd jdt_Ac_takeBack 40 rfl) rfl) ?_
            refine J_mono (w_iconst_1 C (jd jdt_Ac_takeBack 41 rfl)) ?_
            refine J_mono (w_isub C (jd jdt_Ac_takeBack 42 rfl)) ?_
            refine J_bind (fun q6 hq6 => ?_)
            refine J_mono (jc_Ac_60 C (C_Sp_cellOf l G F (jpf y0 2) (M.1 y0 3) (x3 - 1) (jkf_0_2 hy0) M hq6) rfl (Nat.le_trans (Nat.le_of_ble_eq_true rfl : 1 + 1 ≤ 3) hD) (jd jdt_Ac_takeBack 43 rfl)) ?_
            refine J_bind (fun q7 hq7 => ?_)
            refine J_mono (jc_Ac_64 C hy1 (C_Pa_setAct l G F y1 y2 x3 q6 hy1 M hq7) rfl (Nat.le_trans (Nat.le_of_ble_eq_true rfl : 2 + 1 ≤ 3) hD) (jd jdt_Ac_takeBack 44 rfl)) ?_
            refine J_mono (w_iinc (v := x3 + 1) (ls' := [some (.ref y0), some (.ref y1), some (.int y2), some (.int (x3 + 1))]) C (jd jdt_Ac_takeBack 45 rfl) rfl rfl (by decide) rfl rfl) ?_
            refine J_mono (w_goto C (jd jdt_Ac_takeBack 46 rfl) rfl) ?_
            exact J_sub (ih (x3 + 1) q7) ⟨rfl, rfl, rfl, rfl, trivial⟩
      refine J_seq (fun (q8 : SM) => Wk p l e R s m args below meth c G 4 Q 0 0 jN0 (jce G q8) 87 [some (.ref a0), some (.ref a1), some (.int q4), none] []) (J_sub (L55 a0 a1 q4 hp0 hp1 jfuel 1 (sI (sI M a0 3 q2) a0 4 (((sI M a0 3 q2).1 a0 4) - 1))) ⟨rfl, rfl, rfl, rfl, trivial⟩) (fun q8 hq8 => ?_)
      refine J_mono (w_aload_n C (jd jdt_Ac_takeBack 47 rfl) rfl) ?_
      refine J_mono (w_iload_n C (jd jdt_Ac_takeBack 48 rfl) rfl) ?_
      refine J_mono (w_aload_n C (jd jdt_Ac_takeBack 49 rfl) rfl) ?_
      refine J_mono (jg_Ac_15 C hp0 (jd jdt_Ac_takeBack 50 rfl)) ?_
      refine J_mono (w_aload_n C (jd jdt_Ac_takeBack 51 rfl) rfl) ?_
      refine J_mono (jg_Ac_26 C hp0 (jd jdt_Ac_takeBack 52 rfl)) ?_
      refine J_bind (fun q9 hq9 => ?_)
      refine J_mono (jc_Ac_56 C (C_Sp_at l G F (jpf a0 1) (q8.1 a0 3) (jkf_0_1 hp0) q8 hq9) rfl (Nat.le_trans (Nat.le_of_ble_eq_true rfl : 1 + 1 ≤ 3) hD) (jd jdt_Ac_takeBack 53 rfl)) ?_
      refine J_bind (fun q10 hq10 => ?_)
      refine J_mono (jc_Ac_68 C hp1 (C_Pa_setSize l G F a1 q4 q9 hp1 q8 hq10) rfl (Nat.le_trans (Nat.le_of_ble_eq_true rfl : 2 + 1 ≤ 3) hD) (jd jdt_Ac_takeBack 54 rfl)) ?_
      refine J_mono (w_iconst_1 C (jd jdt_Ac_takeBack 55 rfl)) ?_
      exact J_some (fun hx => hR 1 q10 hx _ _ (jd jdt_Ac_takeBack 56 rfl) rfl)
end
theorem C_Ac_takeBack (l : Launch) (G : JG) (F : jF G = false) (a0 : Nat) (a1 : Nat) (hp0 : jkd a0 0) (hp1 : jkd a1 4) (M : SM) {q : (Int32 × SM)} (hf : f_Ac_takeBack a0 a1 M = some q) : jMet l jy_Ac_takeBack jb_Ac_takeBack 4 (some FieldType.boolean) 3 0 0 G [.ref a0, .ref a1] jN0 (jce G M) (some (.int q.1)) jN0 (jce G q.2) :=
  j_met jo_Ac_takeBack (by decide) (Nat.le_of_ble_eq_true rfl) (fun p e s m args below meth c C hr hm => K_Ac_takeBack C F (Nat.le_refl _) a0 a1 hp0 hp1 M (fun t => t = q) (fun v M' hX pc ls hd hn => by cases hX; exact w_iret C hr hn hd) _ hf rfl)
def f_Sp_undo (a0 : Nat) (M : SM) : Option (Int32 × SM) := (f_Ac_takeBack (jpf a0 5) (jpf (jop (M.1 a0 8)) 13) M).bind fun q1 => if q1.1 = 0 then (some (0, q1.2)) else ((f_Ru_playAll (jpf a0 6) (jop (q1.2.1 a0 8)) (jpf a0 7) q1.2).bind fun q3 => some (1, q3))
section
variable {p : Program} {l : Launch} {e : Env} {R : Room} {s : State} {m : MethodId} {args : Array Value} {below : List Frame} {meth : Method} {c : Code} {G : JG} {D : Nat} {Q : State → Prop}
set_option maxHeartbeats 4000000 in
set_option maxRecDepth 20000 in
theorem K_Sp_undo (C : jCx p R s m args meth c G jb_Sp_undo 1 D "SluicePit") (F : jF G = false) (hD : 10 ≤ D) (a0 : Nat) (hp0 : jkd a0 11) (M : SM) (X : (Int32 × SM) → Prop) (hR : ∀ v M', X (v, M') → ∀ (pc : Nat) (ls : List (Option Value)), decode jb_Sp_undo pc = .ok (.ireturn, 1) → narrow FieldType.boolean (.int v) = .int v → Wk p l e R s m args below meth c G 1 Q 0 0 jN0 (jce G M') pc ls [.int v]) : J X (f_Sp_undo a0 M) (Wk p l e R s m args below meth c G 1 Q 0 0 jN0 (jce G M) 0 [some (.ref a0)] []) := by
  unfold f_Sp_undo
  refine J_mono (w_aload_n C (jd jdt_Sp_undo 0 rfl) rfl) ?_
  refine J_mono (jg_Sp_56 C hp0 (jd jdt_Sp_undo 1 rfl)) ?_
  refine J_mono (w_aload_n C (jd jdt_Sp_undo 2 rfl) rfl) ?_
  refine J_mono (jg_Sp_37 C hp0 (jd jdt_Sp_undo 3 rfl)) ?_
  refine J_mono (jg_Sp_163 C (jop_kd _) (jd jdt_Sp_undo 4 rfl)) ?_
  refine J_bind (fun q1 hq1 => ?_)
  refine J_mono (jc_Sp_264 C (jkf_11_5 hp0) (C_Ac_takeBack l G F (jpf a0 5) (jpf (jop (M.1 a0 8)) 13) (jkf_11_5 hp0) (jkf_1_13 (jop_kd _)) M hq1) rfl (Nat.le_trans (Nat.le_of_ble_eq_true rfl : 3 + 1 ≤ 10) hD) (jd jdt_Sp_undo 5 rfl)) ?_
  refine J_br (w_if_ne (y := 0) C (jd jdt_Sp_undo 6 rfl) rfl) (fun h2 => J_pos h2 ?_) (fun h2 => J_neg h2 ?_)
  · refine J_mono (w_iconst_0 C (jd jdt_Sp_undo 7 rfl)) ?_
    exact J_some (fun hx => hR 0 q1.2 hx _ _ (jd jdt_Sp_undo 8 rfl) rfl)
  · refine J_mono (w_aload_n C (jd jdt_Sp_undo 9 rfl) rfl) ?_
    refine J_mono (jg_Sp_63 C hp0 (jd jdt_Sp_undo 10 rfl)) ?_
    refine J_mono (w_aload_n C (jd jdt_Sp_undo 11 rfl) rfl) ?_
    refine J_mono (jg_Sp_37 C hp0 (jd jdt_Sp_undo 12 rfl)) ?_
    refine J_mono (w_aload_n C (jd jdt_Sp_undo 13 rfl) rfl) ?_
    refine J_mono (jg_Sp_70 C hp0 (jd jdt_Sp_undo 14 rfl)) ?_
    refine J_bind (fun q3 hq3 => ?_)
    refine J_mono (jc_Sp_119 C (jkf_11_6 hp0) (C_Ru_playAll l G F (jpf a0 6) (jop (q1.2.1 a0 8)) (jpf a0 7) (jkf_11_6 hp0) (jop_kd _) (jkf_11_7 hp0) q1.2 hq3) rfl (Nat.le_trans (Nat.le_of_ble_eq_true rfl : 9 + 1 ≤ 10) hD) (jd jdt_Sp_undo 15 rfl)) ?_
    refine J_mono (w_iconst_1 C (jd jdt_Sp_undo 16 rfl)) ?_
    exact J_some (fun hx => hR 1 q3 hx _ _ (jd jdt_Sp_undo 17 rfl) rfl)
end
theorem C_Sp_undo (l : Launch) (G : JG) (F : jF G = false) (a0 : Nat) (hp0 : jkd a0 11) (M : SM) {q : (Int32 × SM)} (hf : f_Sp_undo a0 M = some q) : jMet l jy_Sp_undo jb_Sp_undo 1 (some FieldType.boolean) 10 0 0 G [.ref a0] jN0 (jce G M) (some (.int q.1)) jN0 (jce G q.2) :=
  j_met jo_Sp_undo (by decide) (Nat.le_of_ble_eq_true rfl) (fun p e s m args below meth c C hr hm => K_Sp_undo C F (Nat.le_refl _) a0 hp0 M (fun t => t = q) (fun v M' hX pc ls hd hn => by cases hX; exact w_iret C hr hn hd) _ hf rfl)
def f_JI_bitCount (a0 : Int32) : Option Int32 := some ((((((((a0 - ((jush a0 1) &&& 1431655765)) &&& 858993459) + ((jush (a0 - ((jush a0 1) &&& 1431655765)) 2) &&& 858993459)) + (jush (((a0 - ((jush a0 1) &&& 1431655765)) &&& 858993459) + ((jush (a0 - ((jush a0 1) &&& 1431655765)) 2) &&& 858993459)) 4)) &&& 252645135) + (jush (((((a0 - ((jush a0 1) &&& 1431655765)) &&& 858993459) + ((jush (a0 - ((jush a0 1) &&& 1431655765)) 2) &&& 858993459)) + (jush (((a0 - ((jush a0 1) &&& 1431655765)) &&& 858993459) + ((jush (a0 - ((jush a0 1) &&& 1431655765)) 2) &&& 858993459)) 4)) &&& 252645135) 8)) + (jush ((((((a0 - ((jush a0 1) &&& 1431655765)) &&& 858993459) + ((jush (a0 - ((jush a0 1) &&& 1431655765)) 2) &&& 858993459)) + (jush (((a0 - ((jush a0 1) &&& 1431655765)) &&& 858993459) + ((jush (a0 - ((jush a0 1) &&& 1431655765)) 2) &&& 858993459)) 4)) &&& 252645135) + (jush (((((a0 - ((jush a0 1) &&& 1431655765)) &&& 858993459) + ((jush (a0 - ((jush a0 1) &&& 1431655765)) 2) &&& 858993459)) + (jush (((a0 - ((jush a0 1) &&& 1431655765)) &&& 858993459) + ((jush (a0 - ((jush a0 1) &&& 1431655765)) 2) &&& 858993459)) 4)) &&& 252645135) 8)) 16)) &&& 63)
section
variable {p : Program} {l : Launch} {e : Env} {R : Room} {s : State} {m : MethodId} {args : Array Value} {below : List Frame} {meth : Method} {c : Code} {G : JG} {D : Nat} {Q : State → Prop}
set_option maxHeartbeats 4000000 in
set_option maxRecDepth 20000 in
theorem K_JI_bitCount (C : jCx p R s m args meth c G jb_JI_bitCount 1 D "java/lang/Integer") (F : jF G = false) (hD : 1 ≤ D) (a0 : Int32)  (M : SM) (X : Int32 → Prop) (hR : ∀ v, X v → ∀ (pc : Nat) (ls : List (Option Value)), decode jb_JI_bitCount pc = .ok (.ireturn, 1) → narrow FieldType.int (.int v) = .int v → Wk p l e R s m args below meth c G 1 Q 0 0 jN0 (jce G M) pc ls [.int v]) : J X (f_JI_bitCount a0) (Wk p l e R s m args below meth c G 1 Q 0 0 jN0 (jce G M) 0 [some (.int a0)] []) := by
  unfold f_JI_bitCount
  refine J_mono (w_iload_n C (jd jdt_JI_bitCount 0 rfl) rfl) ?_
  refine J_mono (w_iload_n C (jd jdt_JI_bitCount 1 rfl) rfl) ?_
  refine J_mono (w_iconst_1 C (jd jdt_JI_bitCount 2 rfl)) ?_
  refine J_mono (w_iushr C (jd jdt_JI_bitCount 3 rfl)) ?_
  refine J_mono (w_ldc_w C (jd jdt_JI_bitCount 4 rfl) jw_942) ?_
  refine J_mono (w_iand C (jd jdt_JI_bitCount 5 rfl)) ?_
  refine J_mono (w_isub C (jd jdt_JI_bitCount 6 rfl)) ?_
  refine J_mono (w_istore_n (ls' := [some (.int (a0 - ((jush a0 1) &&& 1431655765)))]) C (jd jdt_JI_bitCount 7 rfl) (by decide) rfl rfl) ?_
  refine J_mono (w_iload_n C (jd jdt_JI_bitCount 8 rfl) rfl) ?_
  refine J_mono (w_ldc_w C (jd jdt_JI_bitCount 9 rfl) jw_943) ?_
  refine J_mono (w_iand C (jd jdt_JI_bitCount 10 rfl)) ?_
  refine J_mono (w_iload_n C (jd jdt_JI_bitCount 11 rfl) rfl) ?_
  refine J_mono (w_iconst_2 C (jd jdt_JI_bitCount 12 rfl)) ?_
  refine J_mono (w_iushr C (jd jdt_JI_bitCount 13 rfl)) ?_
  refine J_mono (w_ldc_w C (jd jdt_JI_bitCount 14 rfl) jw_943) ?_
  refine J_mono (w_iand C (jd jdt_JI_bitCount 15 rfl)) ?_
  refine J_mono (w_iadd C (jd jdt_JI_bitCount 16 rfl)) ?_
  refine J_mono (w_istore_n (ls' := [some (.int (((a0 - ((jush a0 1) &&& 1431655765)) &&& 858993459) + ((jush (a0 - ((jush a0 1) &&& 1431655765)) 2) &&& 858993459)))]) C (jd jdt_JI_bitCount 17 rfl) (by decide) rfl rfl) ?_
  refine J_mono (w_iload_n C (jd jdt_JI_bitCount 18 rfl) rfl) ?_
  refine J_mono (w_iload_n C (jd jdt_JI_bitCount 19 rfl) rfl) ?_
  refine J_mono (w_iconst_4 C (jd jdt_JI_bitCount 20 rfl)) ?_
  refine J_mono (w_iushr C (jd jdt_JI_bitCount 21 rfl)) ?_
  refine J_mono (w_iadd C (jd jdt_JI_bitCount 22 rfl)) ?_
  refine J_mono (w_ldc_w C (jd jdt_JI_bitCount 23 rfl) jw_944) ?_
  refine J_mono (w_iand C (jd jdt_JI_bitCount 24 rfl)) ?_
  refine J_mono (w_istore_n (ls' := [some (.int (((((a0 - ((jush a0 1) &&& 1431655765)) &&& 858993459) + ((jush (a0 - ((jush a0 1) &&& 1431655765)) 2) &&& 858993459)) + (jush (((a0 - ((jush a0 1) &&& 1431655765)) &&& 858993459) + ((jush (a0 - ((jush a0 1) &&& 1431655765)) 2) &&& 858993459)) 4)) &&& 252645135))]) C (jd jdt_JI_bitCount 25 rfl) (by decide) rfl rfl) ?_
  refine J_mono (w_iload_n C (jd jdt_JI_bitCount 26 rfl) rfl) ?_
  refine J_mono (w_iload_n C (jd jdt_JI_bitCount 27 rfl) rfl) ?_
  refine J_mono (w_bipush_8 C (jd jdt_JI_bitCount 28 rfl)) ?_
  refine J_mono (w_iushr C (jd jdt_JI_bitCount 29 rfl)) ?_
  refine J_mono (w_iadd C (jd jdt_JI_bitCount 30 rfl)) ?_
  refine J_mono (w_istore_n (ls' := [some (.int ((((((a0 - ((jush a0 1) &&& 1431655765)) &&& 858993459) + ((jush (a0 - ((jush a0 1) &&& 1431655765)) 2) &&& 858993459)) + (jush (((a0 - ((jush a0 1) &&& 1431655765)) &&& 858993459) + ((jush (a0 - ((jush a0 1) &&& 1431655765)) 2) &&& 858993459)) 4)) &&& 252645135) + (jush (((((a0 - ((jush a0 1) &&& 1431655765)) &&& 858993459) + ((jush (a0 - ((jush a0 1) &&& 1431655765)) 2) &&& 858993459)) + (jush (((a0 - ((jush a0 1) &&& 1431655765)) &&& 858993459) + ((jush (a0 - ((jush a0 1) &&& 1431655765)) 2) &&& 858993459)) 4)) &&& 252645135) 8)))]) C (jd jdt_JI_bitCount 31 rfl) (by decide) rfl rfl) ?_
  refine J_mono (w_iload_n C (jd jdt_JI_bitCount 32 rfl) rfl) ?_
  refine J_mono (w_iload_n C (jd jdt_JI_bitCount 33 rfl) rfl) ?_
  refine J_mono (w_bipush_16 C (jd jdt_JI_bitCount 34 rfl)) ?_
  refine J_mono (w_iushr C (jd jdt_JI_bitCount 35 rfl)) ?_
  refine J_mono (w_iadd C (jd jdt_JI_bitCount 36 rfl)) ?_
  refine J_mono (w_istore_n (ls' := [some (.int (((((((a0 - ((jush a0 1) &&& 1431655765)) &&& 858993459) + ((jush (a0 - ((jush a0 1) &&& 1431655765)) 2) &&& 858993459)) + (jush (((a0 - ((jush a0 1) &&& 1431655765)) &&& 858993459) + ((jush (a0 - ((jush a0 1) &&& 1431655765)) 2) &&& 858993459)) 4)) &&& 252645135) + (jush (((((a0 - ((jush a0 1) &&& 1431655765)) &&& 858993459) + ((jush (a0 - ((jush a0 1) &&& 1431655765)) 2) &&& 858993459)) + (jush (((a0 - ((jush a0 1) &&& 1431655765)) &&& 858993459) + ((jush (a0 - ((jush a0 1) &&& 1431655765)) 2) &&& 858993459)) 4)) &&& 252645135) 8)) + (jush ((((((a0 - ((jush a0 1) &&& 1431655765)) &&& 858993459) + ((jush (a0 - ((jush a0 1) &&& 1431655765)) 2) &&& 858993459)) + (jush (((a0 - ((jush a0 1) &&& 1431655765)) &&& 858993459) + ((jush (a0 - ((jush a0 1) &&& 1431655765)) 2) &&& 858993459)) 4)) &&& 252645135) + (jush (((((a0 - ((jush a0 1) &&& 1431655765)) &&& 858993459) + ((jush (a0 - ((jush a0 1) &&& 1431655765)) 2) &&& 858993459)) + (jush (((a0 - ((jush a0 1) &&& 1431655765)) &&& 858993459) + ((jush (a0 - ((jush a0 1) &&& 1431655765)) 2) &&& 858993459)) 4)) &&& 252645135) 8)) 16)))]) C (jd jdt_JI_bitCount 37 rfl) (by decide) rfl rfl) ?_
  refine J_mono (w_iload_n C (jd jdt_JI_bitCount 38 rfl) rfl) ?_
  refine J_mono (w_bipush_63 C (jd jdt_JI_bitCount 39 rfl)) ?_
  refine J_mono (w_iand C (jd jdt_JI_bitCount 40 rfl)) ?_
  exact J_some (fun hx => hR ((((((((a0 - ((jush a0 1) &&& 1431655765)) &&& 858993459) + ((jush (a0 - ((jush a0 1) &&& 1431655765)) 2) &&& 858993459)) + (jush (((a0 - ((jush a0 1) &&& 1431655765)) &&& 858993459) + ((jush (a0 - ((jush a0 1) &&& 1431655765)) 2) &&& 858993459)) 4)) &&& 252645135) + (jush (((((a0 - ((jush a0 1) &&& 1431655765)) &&& 858993459) + ((jush (a0 - ((jush a0 1) &&& 1431655765)) 2) &&& 858993459)) + (jush (((a0 - ((jush a0 1) &&& 1431655765)) &&& 858993459) + ((jush (a0 - ((jush a0 1) &&& 1431655765)) 2) &&& 858993459)) 4)) &&& 252645135) 8)) + (jush ((((((a0 - ((jush a0 1) &&& 1431655765)) &&& 858993459) + ((jush (a0 - ((jush a0 1) &&& 1431655765)) 2) &&& 858993459)) + (jush (((a0 - ((jush a0 1) &&& 1431655765)) &&& 858993459) + ((jush (a0 - ((jush a0 1) &&& 1431655765)) 2) &&& 858993459)) 4)) &&& 252645135) + (jush (((((a0 - ((jush a0 1) &&& 1431655765)) &&& 858993459) + ((jush (a0 - ((jush a0 1) &&& 1431655765)) 2) &&& 858993459)) + (jush (((a0 - ((jush a0 1) &&& 1431655765)) &&& 858993459) + ((jush (a0 - ((jush a0 1) &&& 1431655765)) 2) &&& 858993459)) 4)) &&& 252645135) 8)) 16)) &&& 63) hx _ _ (jd jdt_JI_bitCount 41 rfl) rfl)
end
theorem C_JI_bitCount (l : Launch) (G : JG) (F : jF G = false) (a0 : Int32)  (M : SM) {q : Int32} (hf : f_JI_bitCount a0 = some q) : jMet l jy_JI_bitCount jb_JI_bitCount 1 (some FieldType.int) 1 0 0 G [.int a0] jN0 (jce G M) (some (.int q)) jN0 (jce G M) :=
  j_met jo_JI_bitCount (by decide) (Nat.le_of_ble_eq_true rfl) (fun p e s m args below meth c C hr hm => K_JI_bitCount C F (Nat.le_refl _) a0  M (fun t => t = q) (fun v hX pc ls hd hn => by cases hX; exact w_iret C hr hn hd) _ hf rfl)
def lp_Po_begin_6 (y0 : Nat) (y1 : Nat) (y2 : Int32) : Nat → Int32 → SM → Option (SM)
  | 0, _, _ => none
  | n + 1, x3, M => if x3 < (nI (jln (jpf y0 0))) then ((f_Ru_water y1 y2 x3 M).bind fun q3 => (f_Sp_put (jpf y0 0) x3 q3 M).bind fun q4 => lp_Po_begin_6 y0 y1 y2 n (x3 + 1) q4) else (some M)
def lp_Po_begin_37 (y0 : Nat) (y1 : Nat) (y2 : Int32) : Nat → Int32 → SM → Option (SM)
  | 0, _, _ => none
  | n + 1, x3, M => if x3 < (nI (jln (jpf y0 1))) then ((f_Ru_boatCell y1 y2 x3 M).bind fun q7 => (f_Sp_put (jpf y0 1) x3 q7 M).bind fun q8 => lp_Po_begin_37 y0 y1 y2 n (x3 + 1) q8) else (some M)
def f_Po_begin (a0 : Nat) (a1 : Nat) (a2 : Int32) (M : SM) : Option SM := (f_Po_suppose a0 M).bind fun q1 => (lp_Po_begin_6 a0 a1 a2 jfuel 0 q1).bind fun q5 => (lp_Po_begin_37 a0 a1 a2 jfuel 0 q5).bind fun q9 => (f_Ru_measure a1 a2 0 q9).bind fun q10 => (f_Ru_measure a1 a2 1 (sI q9 a0 2 q10)).bind fun q11 => (f_Ru_measure a1 a2 2 (sI (sI q9 a0 2 q10) a0 3 q11)).bind fun q12 => (f_Ru_measure a1 a2 3 (sI (sI (sI q9 a0 2 q10) a0 3 q11) a0 4 q12)).bind fun q13 => some (sI (sI (sI (sI q9 a0 2 q10) a0 3 q11) a0 4 q12) a0 5 q13)
section
variable {p : Program} {l : Launch} {e : Env} {R : Room} {s : State} {m : MethodId} {args : Array Value} {below : List Frame} {meth : Method} {c : Code} {G : JG} {D : Nat} {Q : State → Prop}
set_option maxHeartbeats 4000000 in
set_option maxRecDepth 20000 in
theorem K_Po_begin (C : jCx p R s m args meth c G jb_Po_begin 4 D "SluicePit$Pool") (F : jF G = false) (hD : 3 ≤ D) (a0 : Nat) (a1 : Nat) (a2 : Int32) (hp0 : jkd a0 5) (hp1 : jkd a1 8) (M : SM) (X : SM → Prop) (hR : ∀ M', X M' → ∀ (pc : Nat) (ls : List (Option Value)), decode jb_Po_begin pc = .ok (.return_, 1) → Wk p l e R s m args below meth c G 4 Q 0 0 jN0 (jce G M') pc ls []) : J X (f_Po_begin a0 a1 a2 M) (Wk p l e R s m args below meth c G 4 Q 0 0 jN0 (jce G M) 0 [some (.ref a0), some (.ref a1), some (.int a2), none] []) := by
  unfold f_Po_begin
  refine J_mono (w_aload_n C (jd jdt_Po_begin 0 rfl) rfl) ?_
  refine J_bind (fun q1 hq1 => ?_)
  refine J_mono (jc_Po_18 C hp0 (C_Po_suppose l G F a0 hp0 M hq1) rfl (Nat.le_trans (Nat.le_of_ble_eq_true rfl : 1 + 1 ≤ 3) hD) (jd jdt_Po_begin 1 rfl)) ?_
  refine J_mono (w_iconst_0 C (jd jdt_Po_begin 2 rfl)) ?_
  refine J_mono (w_istore_n (ls' := [some (.ref a0), some (.ref a1), some (.int a2), some (.int 0)]) C (jd jdt_Po_begin 3 rfl) (by decide) rfl rfl) ?_
  have L6 : ∀ (y0 : Nat) (y1 : Nat) (y2 : Int32) (hy0 : jkd y0 5) (hy1 : jkd y1 8) (n : Nat) (x3 : Int32) (M : SM), J (fun (q5 : SM) => Wk p l e R s m args below meth c G 4 Q 0 0 jN0 (jce G q5) 35 [some (.ref y0), some (.ref y1), some (.int y2), none] []) (lp_Po_begin_6 y0 y1 y2 n x3 M) (Wk p l e R s m args below meth c G 4 Q 0 0 jN0 (jce G M) 6 [some (.ref y0), some (.ref y1), some (.int y2), some (.int x3)] []) := by
    intro y0 y1 y2 hy0 hy1 n
    induction n with
    | zero => intro x3 M; exact J_none
    | succ n ih =>
      intro x3 M
      unfold lp_Po_begin_6
      refine J_mono (w_iload_n C (jd jdt_Po_begin 4 rfl) rfl) ?_
      refine J_mono (w_aload_n C (jd jdt_Po_begin 5 rfl) rfl) ?_
      refine J_mono (jg_Po_9 C hy0 (jd jdt_Po_begin 6 rfl)) ?_
      refine J_mono (w_alen C (.inl (jkf_5_0 hy0)) (jd jdt_Po_begin 7 rfl)) ?_
      refine J_br (w_icmp_ge C (jd jdt_Po_begin 8 rfl) rfl) (fun h2 => J_pos h2 ?_) (fun h2 => J_neg h2 ?_)
      · refine J_mono (w_aload_n C (jd jdt_Po_begin 9 rfl) rfl) ?_
        refine J_mono (jg_Po_9 C hy0 (jd jdt_Po_begin 10 rfl)) ?_
        refine J_mono (w_iload_n C (jd jdt_Po_begin 11 rfl) rfl) ?_
        refine J_mono (w_aload_n C (jd jdt_Po_begin 12 rfl) rfl) ?_
        refine J_mono (w_iload_n C (jd jdt_Po_begin 13 rfl) rfl) ?_
        refine J_mono (w_iload_n C (jd jdt_Po_begin 14 rfl) rfl) ?_
        refine J_bind (fun q3 hq3 => ?_)
        refine J_mono (jc_Po_76 C hy1 (C_Ru_water l G F y1 y2 x3 hy1 M hq3) rfl (Nat.le_trans (Nat.le_of_ble_eq_true rfl : 2 + 1 ≤ 3) hD) (jd jdt_Po_begin 15 rfl)) ?_
        refine J_bind (fun q4 hq4 => ?_)
        refine J_mono (jc_Po_44 C (C_Sp_put l G F (jpf y0 0) x3 q3 (jkf_5_0 hy0) M hq4) rfl (Nat.le_trans (Nat.le_of_ble_eq_true rfl : 1 + 1 ≤ 3) hD) (jd jdt_Po_begin 16 rfl)) ?_
        refine J_mono (w_iinc (v := x3 + 1) (ls' := [some (.ref y0), some (.ref y1), some (.int y2), some (.int (x3 + 1))]) C (jd jdt_Po_begin 17 rfl) rfl rfl (by decide) rfl rfl) ?_
        refine J_mono (w_goto C (jd jdt_Po_begin 18 rfl) rfl) ?_
        exact J_sub (ih (x3 + 1) q4) ⟨rfl, rfl, rfl, rfl, trivial⟩
      · exact J_some (fun hx => Wk_sb hx ⟨rfl, rfl, rfl, trivial⟩)
  refine J_seq (fun (q5 : SM) => Wk p l e R s m args below meth c G 4 Q 0 0 jN0 (jce G q5) 35 [some (.ref a0), some (.ref a1), some (.int a2), none] []) (J_sub (L6 a0 a1 a2 hp0 hp1 jfuel 0 q1) ⟨rfl, rfl, rfl, rfl, trivial⟩) (fun q5 hq5 => ?_)
  refine J_mono (w_iconst_0 C (jd jdt_Po_begin 19 rfl)) ?_
  refine J_mono (w_istore_n (ls' := [some (.ref a0), some (.ref a1), some (.int a2), some (.int 0)]) C (jd jdt_Po_begin 20 rfl) (by decide) rfl rfl) ?_
  have L37 : ∀ (y0 : Nat) (y1 : Nat) (y2 : Int32) (hy0 : jkd y0 5) (hy1 : jkd y1 8) (n : Nat) (x3 : Int32) (M : SM), J (fun (q9 : SM) => Wk p l e R s m args below meth c G 4 Q 0 0 jN0 (jce G q9) 66 [some (.ref y0), some (.ref y1), some (.int y2), none] []) (lp_Po_begin_37 y0 y1 y2 n x3 M) (Wk p l e R s m args below meth c G 4 Q 0 0 jN0 (jce G M) 37 [some (.ref y0), some (.ref y1), some (.int y2), some (.int x3)] []) := by
    intro y0 y1 y2 hy0 hy1 n
    induction n with
    | zero => intro x3 M; exact J_none
    | succ n ih =>
      intro x3 M
      unfold lp_Po_begin_37
      refine J_mono (w_iload_n C (jd jdt_Po_begin 21 rfl) rfl) ?_
      refine J_mono (w_aload_n C (jd jdt_Po_begin 22 rfl) rfl) ?_
      refine J_mono (jg_Po_15 C hy0 (jd jdt_Po_begin 23 rfl)) ?_
      refine J_mono (w_alen C (.inl (jkf_5_1 hy0)) (jd jdt_Po_begin 24 rfl)) ?_
      refine J_br (w_icmp_ge C (jd jdt_Po_begin 25 rfl) rfl) (fun h6 => J_pos h6 ?_) (fun h6 => J_neg h6 ?_)
      · refine J_mono (w_aload_n C (jd jdt_Po_begin 26 rfl) rfl) ?_
        refine J_mono (jg_Po_15 C hy0 (jd jdt_Po_begin 27 rfl)) ?_
        refine J_mono (w_iload_n C (jd jdt_Po_begin 28 rfl) rfl) ?_
        refine J_mono (w_aload_n C (jd jdt_Po_begin 29 rfl) rfl) ?_
        refine J_mono (w_iload_n C (jd jdt_Po_begin 30 rfl) rfl) ?_
        refine J_mono (w_iload_n C (jd jdt_Po_begin 31 rfl) rfl) ?_
        refine J_bind (fun q7 hq7 => ?_)
        refine J_mono (jc_Po_81 C hy1 (C_Ru_boatCell l G F y1 y2 x3 hy1 M hq7) rfl (Nat.le_trans (Nat.le_of_ble_eq_true rfl : 2 + 1 ≤ 3) hD) (jd jdt_Po_begin 32 rfl)) ?_
        refine J_bind (fun q8 hq8 => ?_)
        refine J_mono (jc_Po_44 C (C_Sp_put l G F (jpf y0 1) x3 q7 (jkf_5_1 hy0) M hq8) rfl (Nat.le_trans (Nat.le_of_ble_eq_true rfl : 1 + 1 ≤ 3) hD) (jd jdt_Po_begin 33 rfl)) ?_
        refine J_mono (w_iinc (v := x3 + 1) (ls' := [some (.ref y0), some (.ref y1), some (.int y2), some (.int (x3 + 1))]) C (jd jdt_Po_begin 34 rfl) rfl rfl (by decide) rfl rfl) ?_
        refine J_mono (w_goto C (jd jdt_Po_begin 35 rfl) rfl) ?_
        exact J_sub (ih (x3 + 1) q8) ⟨rfl, rfl, rfl, rfl, trivial⟩
      · exact J_some (fun hx => Wk_sb hx ⟨rfl, rfl, rfl, trivial⟩)
  refine J_seq (fun (q9 : SM) => Wk p l e R s m args below meth c G 4 Q 0 0 jN0 (jce G q9) 66 [some (.ref a0), some (.ref a1), some (.int a2), none] []) (J_sub (L37 a0 a1 a2 hp0 hp1 jfuel 0 q5) ⟨rfl, rfl, rfl, rfl, trivial⟩) (fun q9 hq9 => ?_)
  refine J_mono (w_aload_n C (jd jdt_Po_begin 36 rfl) rfl) ?_
  refine J_mono (w_aload_n C (jd jdt_Po_begin 37 rfl) rfl) ?_
  refine J_mono (w_iload_n C (jd jdt_Po_begin 38 rfl) rfl) ?_
  refine J_mono (w_iconst_0 C (jd jdt_Po_begin 39 rfl)) ?_
  refine J_bind (fun q10 hq10 => ?_)
  refine J_mono (jc_Po_84 C hp1 (C_Ru_measure l G F a1 a2 0 hp1 q9 hq10) rfl (Nat.le_trans (Nat.le_of_ble_eq_true rfl : 2 + 1 ≤ 3) hD) (jd jdt_Po_begin 40 rfl)) ?_
  refine J_mono (jp_Po_60 C F hp0 (jd jdt_Po_begin 41 rfl)) ?_
  refine J_mono (w_aload_n C (jd jdt_Po_begin 42 rfl) rfl) ?_
  refine J_mono (w_aload_n C (jd jdt_Po_begin 43 rfl) rfl) ?_
  refine J_mono (w_iload_n C (jd jdt_Po_begin 44 rfl) rfl) ?_
  refine J_mono (w_iconst_1 C (jd jdt_Po_begin 45 rfl)) ?_
  refine J_bind (fun q11 hq11 => ?_)
  refine J_mono (jc_Po_84 C hp1 (C_Ru_measure l G F a1 a2 1 hp1 (sI q9 a0 2 q10) hq11) rfl (Nat.le_trans (Nat.le_of_ble_eq_true rfl : 2 + 1 ≤ 3) hD) (jd jdt_Po_begin 46 rfl)) ?_
  refine J_mono (jp_Po_63 C F hp0 (jd jdt_Po_begin 47 rfl)) ?_
  refine J_mono (w_aload_n C (jd jdt_Po_begin 48 rfl) rfl) ?_
  refine J_mono (w_aload_n C (jd jdt_Po_begin 49 rfl) rfl) ?_
  refine J_mono (w_iload_n C (jd jdt_Po_begin 50 rfl) rfl) ?_
  refine J_mono (w_iconst_2 C (jd jdt_Po_begin 51 rfl)) ?_
  refine J_bind (fun q12 hq12 => ?_)
  refine J_mono (jc_Po_84 C hp1 (C_Ru_measure l G F a1 a2 2 hp1 (sI (sI q9 a0 2 q10) a0 3 q11) hq12) rfl (Nat.le_trans (Nat.le_of_ble_eq_true rfl : 2 + 1 ≤ 3) hD) (jd jdt_Po_begin 52 rfl)) ?_
  refine J_mono (jp_Po_66 C F hp0 (jd jdt_Po_begin 53 rfl)) ?_
  refine J_mono (w_aload_n C (jd jdt_Po_begin 54 rfl) rfl) ?_
  refine J_mono (w_aload_n C (jd jdt_Po_begin 55 rfl) rfl) ?_
  refine J_mono (w_iload_n C (jd jdt_Po_begin 56 rfl) rfl) ?_
  refine J_mono (w_iconst_3 C (jd jdt_Po_begin 57 rfl)) ?_
  refine J_bind (fun q13 hq13 => ?_)
  refine J_mono (jc_Po_84 C hp1 (C_Ru_measure l G F a1 a2 3 hp1 (sI (sI (sI q9 a0 2 q10) a0 3 q11) a0 4 q12) hq13) rfl (Nat.le_trans (Nat.le_of_ble_eq_true rfl : 2 + 1 ≤ 3) hD) (jd jdt_Po_begin 58 rfl)) ?_
  refine J_mono (jp_Po_69 C F hp0 (jd jdt_Po_begin 59 rfl)) ?_
  exact J_some (fun hx => hR (sI (sI (sI (sI q9 a0 2 q10) a0 3 q11) a0 4 q12) a0 5 q13) hx _ _ (jd jdt_Po_begin 60 rfl))
end
theorem C_Po_begin (l : Launch) (G : JG) (F : jF G = false) (a0 : Nat) (a1 : Nat) (a2 : Int32) (hp0 : jkd a0 5) (hp1 : jkd a1 8) (M : SM) {q : SM} (hf : f_Po_begin a0 a1 a2 M = some q) : jMet l jy_Po_begin jb_Po_begin 4 none 3 0 0 G [.ref a0, .ref a1, .int a2] jN0 (jce G M) none jN0 (jce G q) :=
  j_met jo_Po_begin (by decide) (Nat.le_of_ble_eq_true rfl) (fun p e s m args below meth c C hr hm => K_Po_begin C F (Nat.le_refl _) a0 a1 a2 hp0 hp1 M (fun t => t = q) (fun M' hX pc ls hd => by cases hX; exact w_vret C hr hd) _ hf rfl)
def lp_Sp_playSilent_22 (y0 : Nat) (y2 : Int32) : Nat → Int32 → SM → Option (SM)
  | 0, _, _ => none
  | n + 1, x3, M => if y2 < x3 then (some M) else ((f_Po_play (jpf y0 7) (jop (M.1 y0 8)) x3 M).bind fun q3 => lp_Sp_playSilent_22 y0 y2 n (x3 + 1) q3)
def f_Sp_playSilent (a0 : Nat) (a1 : Int32) (a2 : Int32) (M : SM) : Option SM := (f_Po_begin (jpf a0 7) (jpf a0 6) 0 M).bind fun q1 => (lp_Sp_playSilent_22 a0 a2 jfuel 1 (sI q1 (jpf a0 7) 7 a1)).bind fun q4 => some q4
section
variable {p : Program} {l : Launch} {e : Env} {R : Room} {s : State} {m : MethodId} {args : Array Value} {below : List Frame} {meth : Method} {c : Code} {G : JG} {D : Nat} {Q : State → Prop}
set_option maxHeartbeats 4000000 in
set_option maxRecDepth 20000 in
theorem K_Sp_playSilent (C : jCx p R s m args meth c G jb_Sp_playSilent 4 D "SluicePit") (F : jF G = false) (hD : 9 ≤ D) (a0 : Nat) (a1 : Int32) (a2 : Int32) (hp0 : jkd a0 11) (M : SM) (X : SM → Prop) (hR : ∀ M', X M' → ∀ (pc : Nat) (ls : List (Option Value)), decode jb_Sp_playSilent pc = .ok (.return_, 1) → Wk p l e R s m args below meth c G 4 Q 0 0 jN0 (jce G M') pc ls []) : J X (f_Sp_playSilent a0 a1 a2 M) (Wk p l e R s m args below meth c G 4 Q 0 0 jN0 (jce G M) 0 [some (.ref a0), some (.int a1), some (.int a2), none] []) := by
  unfold f_Sp_playSilent
  refine J_mono (w_aload_n C (jd jdt_Sp_playSilent 0 rfl) rfl) ?_
  refine J_mono (jg_Sp_70 C hp0 (jd jdt_Sp_playSilent 1 rfl)) ?_
  refine J_mono (w_aload_n C (jd jdt_Sp_playSilent 2 rfl) rfl) ?_
  refine J_mono (jg_Sp_63 C hp0 (jd jdt_Sp_playSilent 3 rfl)) ?_
  refine J_mono (w_iconst_0 C (jd jdt_Sp_playSilent 4 rfl)) ?_
  refine J_bind (fun q1 hq1 => ?_)
  refine J_mono (jc_Sp_283 C (jkf_11_7 hp0) (C_Po_begin l G F (jpf a0 7) (jpf a0 6) 0 (jkf_11_7 hp0) (jkf_11_6 hp0) M hq1) rfl (Nat.le_trans (Nat.le_of_ble_eq_true rfl : 3 + 1 ≤ 9) hD) (jd jdt_Sp_playSilent 5 rfl)) ?_
  refine J_mono (w_aload_n C (jd jdt_Sp_playSilent 6 rfl) rfl) ?_
  refine J_mono (jg_Sp_70 C hp0 (jd jdt_Sp_playSilent 7 rfl)) ?_
  refine J_mono (w_iload_n C (jd jdt_Sp_playSilent 8 rfl) rfl) ?_
  refine J_mono (jp_Sp_333 C F (jkf_11_7 hp0) (jd jdt_Sp_playSilent 9 rfl)) ?_
  refine J_mono (w_iconst_1 C (jd jdt_Sp_playSilent 10 rfl)) ?_
  refine J_mono (w_istore_n (ls' := [some (.ref a0), some (.int a1), some (.int a2), some (.int 1)]) C (jd jdt_Sp_playSilent 11 rfl) (by decide) rfl rfl) ?_
  have L22 : ∀ (y0 : Nat) (y2 : Int32) (hy0 : jkd y0 11) (n : Nat) (x3 : Int32) (M : SM), J (fun (q4 : SM) => Wk p l e R s m args below meth c G 4 Q 0 0 jN0 (jce G q4) 45 [none, none, none, none] []) (lp_Sp_playSilent_22 y0 y2 n x3 M) (Wk p l e R s m args below meth c G 4 Q 0 0 jN0 (jce G M) 22 [some (.ref y0), none, some (.int y2), some (.int x3)] []) := by
    intro y0 y2 hy0 n
    induction n with
    | zero => intro x3 M; exact J_none
    | succ n ih =>
      intro x3 M
      unfold lp_Sp_playSilent_22
      refine J_mono (w_iload_n C (jd jdt_Sp_playSilent 12 rfl) rfl) ?_
      refine J_mono (w_iload_n C (jd jdt_Sp_playSilent 13 rfl) rfl) ?_
      refine J_br (w_icmp_gt C (jd jdt_Sp_playSilent 14 rfl) rfl) (fun h2 => J_pos h2 ?_) (fun h2 => J_neg h2 ?_)
      · exact J_some (fun hx => Wk_sb hx trivial)
      · refine J_mono (w_aload_n C (jd jdt_Sp_playSilent 15 rfl) rfl) ?_
        refine J_mono (jg_Sp_70 C hy0 (jd jdt_Sp_playSilent 16 rfl)) ?_
        refine J_mono (w_aload_n C (jd jdt_Sp_playSilent 17 rfl) rfl) ?_
        refine J_mono (jg_Sp_37 C hy0 (jd jdt_Sp_playSilent 18 rfl)) ?_
        refine J_mono (w_iload_n C (jd jdt_Sp_playSilent 19 rfl) rfl) ?_
        refine J_bind (fun q3 hq3 => ?_)
        refine J_mono (jc_Sp_292 C (jkf_11_7 hy0) (C_Po_play l G F (jpf y0 7) (jop (M.1 y0 8)) x3 (jkf_11_7 hy0) (jop_kd _) M hq3) rfl (Nat.le_trans (Nat.le_of_ble_eq_true rfl : 8 + 1 ≤ 9) hD) (jd jdt_Sp_playSilent 20 rfl)) ?_
        refine J_mono (w_iinc (v := x3 + 1) (ls' := [some (.ref y0), none, some (.int y2), some (.int (x3 + 1))]) C (jd jdt_Sp_playSilent 21 rfl) rfl rfl (by decide) rfl rfl) ?_
        refine J_mono (w_goto C (jd jdt_Sp_playSilent 22 rfl) rfl) ?_
        exact J_sub (ih (x3 + 1) q3) ⟨rfl, rfl, rfl, trivial⟩
  refine J_seq (fun (q4 : SM) => Wk p l e R s m args below meth c G 4 Q 0 0 jN0 (jce G q4) 45 [none, none, none, none] []) (J_sub (L22 a0 a2 hp0 jfuel 1 (sI q1 (jpf a0 7) 7 a1)) ⟨rfl, rfl, rfl, trivial⟩) (fun q4 hq4 => ?_)
  exact J_some (fun hx => hR q4 hx _ _ (jd jdt_Sp_playSilent 23 rfl))
end
theorem C_Sp_playSilent (l : Launch) (G : JG) (F : jF G = false) (a0 : Nat) (a1 : Int32) (a2 : Int32) (hp0 : jkd a0 11) (M : SM) {q : SM} (hf : f_Sp_playSilent a0 a1 a2 M = some q) : jMet l jy_Sp_playSilent jb_Sp_playSilent 4 none 9 0 0 G [.ref a0, .int a1, .int a2] jN0 (jce G M) none jN0 (jce G q) :=
  j_met jo_Sp_playSilent (by decide) (Nat.le_of_ble_eq_true rfl) (fun p e s m args below meth c C hr hm => K_Sp_playSilent C F (Nat.le_refl _) a0 a1 a2 hp0 M (fun t => t = q) (fun M' hX pc ls hd => by cases hX; exact w_vret C hr hd) _ hf rfl)
def lp_Sp_fewest_63 (y0 : Nat) (y1 : Int32) (y2 : Int32) (y3 : Int32) (y4 : Int32) (y5 : Int32) (y6 : Int32) : Nat → Int32 → SM → Option ((SM) ⊕ (Int32 × SM))
  | 0, _, _ => none
  | n + 1, x7, M => if y5 < x7 then (some (.inl M)) else ((f_JI_bitCount x7).bind fun q9 => if q9 = y6 then ((if y4 = 0 then (some (y5 - x7)) else (some x7) : Option (Int32)).bind fun q11 => (f_Sp_playSilent y0 q11 y2 M).bind fun q13 => (if y4 = 0 then ((f_Po_isLast (jpf y0 7) (jop (q13.1 y0 8)) y1 q13).bind fun q16 => some q16) else ((f_Po_isAground (jpf y0 7) (jop (q13.1 y0 8)) y1 q13).bind fun q17 => some q17) : Option (Int32)).bind fun q14 => if q14 = 0 then (lp_Sp_fewest_63 y0 y1 y2 y3 y4 y5 y6 n (x7 + 1) q13) else (if y3 = 0 then (some (.inr (y6, q13))) else (some (.inr (x7, q13))))) else (lp_Sp_fewest_63 y0 y1 y2 y3 y4 y5 y6 n (x7 + 1) M))
def lp_Sp_fewest_48 (y0 : Nat) (y1 : Int32) (y2 : Int32) (y3 : Int32) (y4 : Int32) (y5 : Int32) : Nat → Int32 → SM → Option ((SM) ⊕ (Int32 × SM))
  | 0, _, _ => none
  | n + 1, x6, M => if (M.1 (jop (M.1 y0 8)) 4) < x6 then (some (.inl M)) else (jsb (lp_Sp_fewest_63 y0 y1 y2 y3 y4 y5 x6 jfuel 0 M) Sum.inr fun q20 => lp_Sp_fewest_48 y0 y1 y2 y3 y4 y5 n (x6 + 1) q20)
def f_Sp_fewest (a0 : Nat) (a1 : Int32) (a2 : Int32) (a3 : Int32) (a4 : Int32) (M : SM) : Option (Int32 × SM) := (f_St_holds (jpf (jop (M.1 a0 8)) 11) a1 M).bind fun q1 => if q1 = 0 then (some ((-1), M)) else ((f_Sp_isBar a2).bind fun q3 => if q3 = 0 then (some ((-1), M)) else (if a3 < 0 then (some ((-1), M)) else (if 1 < a3 then (some ((-1), M)) else (jsb (lp_Sp_fewest_48 a0 a1 a2 a3 a4 ((1 <<< ((M.1 (jop (M.1 a0 8)) 4) &&& 31)) - 1) jfuel 0 M) id fun q21 => some ((-1), q21)))))
section
variable {p : Program} {l : Launch} {e : Env} {R : Room} {s : State} {m : MethodId} {args : Array Value} {below : List Frame} {meth : Method} {c : Code} {G : JG} {D : Nat} {Q : State → Prop}
set_option maxHeartbeats 4000000 in
set_option maxRecDepth 20000 in
theorem K_Sp_fewest (C : jCx p R s m args meth c G jb_Sp_fewest 9 D "SluicePit") (F : jF G = false) (hD : 10 ≤ D) (a0 : Nat) (a1 : Int32) (a2 : Int32) (a3 : Int32) (a4 : Int32) (hp0 : jkd a0 11) (M : SM) (X : (Int32 × SM) → Prop) (hR : ∀ v M', X (v, M') → ∀ (pc : Nat) (ls : List (Option Value)), decode jb_Sp_fewest pc = .ok (.ireturn, 1) → narrow FieldType.int (.int v) = .int v → Wk p l e R s m args below meth c G 9 Q 0 0 jN0 (jce G M') pc ls [.int v]) : J X (f_Sp_fewest a0 a1 a2 a3 a4 M) (Wk p l e R s m args below meth c G 9 Q 0 0 jN0 (jce G M) 0 [some (.ref a0), some (.int a1), some (.int a2), some (.int a3), some (.int a4), none, none, none, none] []) := by
  unfold f_Sp_fewest
  refine J_mono (w_aload_n C (jd jdt_Sp_fewest 0 rfl) rfl) ?_
  refine J_mono (jg_Sp_37 C hp0 (jd jdt_Sp_fewest 1 rfl)) ?_
  refine J_mono (jg_Sp_151 C (jop_kd _) (jd jdt_Sp_fewest 2 rfl)) ?_
  refine J_mono (w_iload_n C (jd jdt_Sp_fewest 3 rfl) rfl) ?_
  refine J_bind (fun q1 hq1 => ?_)
  refine J_mono (jc_Sp_225 C (jkf_1_11 (jop_kd _)) (C_St_holds l G F (jpf (jop (M.1 a0 8)) 11) a1 (jkf_1_11 (jop_kd _)) M hq1) rfl (Nat.le_trans (Nat.le_of_ble_eq_true rfl : 1 + 1 ≤ 10) hD) (jd jdt_Sp_fewest 4 rfl)) ?_
  refine J_br (w_if_eq (y := 0) C (jd jdt_Sp_fewest 5 rfl) rfl) (fun h2 => J_pos h2 ?_) (fun h2 => J_neg h2 ?_)
  · refine J_mono (w_iconst_m1 C (jd jdt_Sp_fewest 14 rfl)) ?_
    exact J_some (fun hx => hR (-1) M hx _ _ (jd jdt_Sp_fewest 15 rfl) rfl)
  · refine J_mono (w_iload_n C (jd jdt_Sp_fewest 6 rfl) rfl) ?_
    refine J_bind (fun q3 hq3 => ?_)
    refine J_mono (jc_Sp_208 C (C_Sp_isBar l G F a2 M hq3) rfl (Nat.le_trans (Nat.le_of_ble_eq_true rfl : 1 + 1 ≤ 10) hD) (jd jdt_Sp_fewest 7 rfl)) ?_
    refine J_br (w_if_eq (y := 0) C (jd jdt_Sp_fewest 8 rfl) rfl) (fun h4 => J_pos h4 ?_) (fun h4 => J_neg h4 ?_)
    · refine J_mono (w_iconst_m1 C (jd jdt_Sp_fewest 14 rfl)) ?_
      exact J_some (fun hx => hR (-1) M hx _ _ (jd jdt_Sp_fewest 15 rfl) rfl)
    · refine J_mono (w_iload_n C (jd jdt_Sp_fewest 9 rfl) rfl) ?_
      refine J_br (w_if_lt (y := 0) C (jd jdt_Sp_fewest 10 rfl) rfl) (fun h5 => J_pos h5 ?_) (fun h5 => J_neg h5 ?_)
      · refine J_mono (w_iconst_m1 C (jd jdt_Sp_fewest 14 rfl)) ?_
        exact J_some (fun hx => hR (-1) M hx _ _ (jd jdt_Sp_fewest 15 rfl) rfl)
      · refine J_mono (w_iload_n C (jd jdt_Sp_fewest 11 rfl) rfl) ?_
        refine J_mono (w_iconst_1 C (jd jdt_Sp_fewest 12 rfl)) ?_
        refine J_br (w_icmp_le C (jd jdt_Sp_fewest 13 rfl) rfl) (fun h6 => J_pos h6 ?_) (fun h6 => J_neg h6 ?_)
        · refine J_mono (w_iconst_m1 C (jd jdt_Sp_fewest 14 rfl)) ?_
          exact J_some (fun hx => hR (-1) M hx _ _ (jd jdt_Sp_fewest 15 rfl) rfl)
        · refine J_mono (w_iconst_1 C (jd jdt_Sp_fewest 16 rfl)) ?_
          refine J_mono (w_aload_n C (jd jdt_Sp_fewest 17 rfl) rfl) ?_
          refine J_mono (jg_Sp_37 C hp0 (jd jdt_Sp_fewest 18 rfl)) ?_
          refine J_mono (jg_Sp_135 C (jop_kd _) (jd jdt_Sp_fewest 19 rfl)) ?_
          refine J_mono (w_ishl C (jd jdt_Sp_fewest 20 rfl)) ?_
          refine J_mono (w_iconst_1 C (jd jdt_Sp_fewest 21 rfl)) ?_
          refine J_mono (w_isub C (jd jdt_Sp_fewest 22 rfl)) ?_
          refine J_mono (w_istore (ls' := [some (.ref a0), some (.int a1), some (.int a2), some (.int a3), some (.int a4), some (.int ((1 <<< ((M.1 (jop (M.1 a0 8)) 4) &&& 31)) - 1)), none, none, none]) C (jd jdt_Sp_fewest 23 rfl) (by decide) rfl rfl) ?_
          refine J_mono (w_iconst_0 C (jd jdt_Sp_fewest 24 rfl)) ?_
          refine J_mono (w_istore (ls' := [some (.ref a0), some (.int a1), some (.int a2), some (.int a3), some (.int a4), some (.int ((1 <<< ((M.1 (jop (M.1 a0 8)) 4) &&& 31)) - 1)), some (.int 0), none, none]) C (jd jdt_Sp_fewest 25 rfl) (by decide) rfl rfl) ?_
          have L48 : ∀ (y0 : Nat) (y1 : Int32) (y2 : Int32) (y3 : Int32) (y4 : Int32) (y5 : Int32) (hy0 : jkd y0 11) (n : Nat) (x6 : Int32) (M : SM), J (Sum.elim (fun (q21 : SM) => Wk p l e R s m args below meth c G 9 Q 0 0 jN0 (jce G q21) 166 [none, none, none, none, none, none, none, none, none] []) X) (lp_Sp_fewest_48 y0 y1 y2 y3 y4 y5 n x6 M) (Wk p l e R s m args below meth c G 9 Q 0 0 jN0 (jce G M) 48 [some (.ref y0), some (.int y1), some (.int y2), some (.int y3), some (.int y4), some (.int y5), some (.int x6), none, none] []) := by
            intro y0 y1 y2 y3 y4 y5 hy0 n
            induction n with
            | zero => intro x6 M; exact J_none
            | succ n ih =>
              intro x6 M
              unfold lp_Sp_fewest_48
              refine J_mono (w_iload C (jd jdt_Sp_fewest 26 rfl) rfl) ?_
              refine J_mono (w_aload_n C (jd jdt_Sp_fewest 27 rfl) rfl) ?_
              refine J_mono (jg_Sp_37 C hy0 (jd jdt_Sp_fewest 28 rfl)) ?_
              refine J_mono (jg_Sp_135 C (jop_kd _) (jd jdt_Sp_fewest 29 rfl)) ?_
              refine J_br (w_icmp_gt C (jd jdt_Sp_fewest 30 rfl) rfl) (fun h7 => J_pos h7 ?_) (fun h7 => J_neg h7 ?_)
              · exact J_some (fun hx => Wk_sb hx trivial)
              · refine J_mono (w_iconst_0 C (jd jdt_Sp_fewest 31 rfl)) ?_
                refine J_mono (w_istore (ls' := [some (.ref y0), some (.int y1), some (.int y2), some (.int y3), some (.int y4), some (.int y5), some (.int x6), some (.int 0), none]) C (jd jdt_Sp_fewest 32 rfl) (by decide) rfl rfl) ?_
                have L63 : ∀ (y0 : Nat) (y1 : Int32) (y2 : Int32) (y3 : Int32) (y4 : Int32) (y5 : Int32) (y6 : Int32) (hy0 : jkd y0 11) (n : Nat) (x7 : Int32) (M : SM), J (Sum.elim (fun (q20 : SM) => Wk p l e R s m args below meth c G 9 Q 0 0 jN0 (jce G q20) 160 [some (.ref y0), some (.int y1), some (.int y2), some (.int y3), some (.int y4), some (.int y5), some (.int y6), none, none] []) X) (lp_Sp_fewest_63 y0 y1 y2 y3 y4 y5 y6 n x7 M) (Wk p l e R s m args below meth c G 9 Q 0 0 jN0 (jce G M) 63 [some (.ref y0), some (.int y1), some (.int y2), some (.int y3), some (.int y4), some (.int y5), some (.int y6), some (.int x7), none] []) := by
                  intro y0 y1 y2 y3 y4 y5 y6 hy0 n
                  induction n with
                  | zero => intro x7 M; exact J_none
                  | succ n ih =>
                    intro x7 M
                    unfold lp_Sp_fewest_63
                    refine J_mono (w_iload C (jd jdt_Sp_fewest 33 rfl) rfl) ?_
                    refine J_mono (w_iload C (jd jdt_Sp_fewest 34 rfl) rfl) ?_
                    refine J_br (w_icmp_gt C (jd jdt_Sp_fewest 35 rfl) rfl) (fun h8 => J_pos h8 ?_) (fun h8 => J_neg h8 ?_)
                    · exact J_some (fun hx => Wk_sb hx ⟨rfl, rfl, rfl, rfl, rfl, rfl, rfl, trivial⟩)
                    · refine J_mono (w_iload C (jd jdt_Sp_fewest 36 rfl) rfl) ?_
                      refine J_bind (fun q9 hq9 => ?_)
                      refine J_mono (jc_Sp_318 C (C_JI_bitCount l G F x7 M hq9) rfl (Nat.le_trans (Nat.le_of_ble_eq_true rfl : 1 + 1 ≤ 10) hD) (jd jdt_Sp_fewest 37 rfl)) ?_
                      refine J_mono (w_iload C (jd jdt_Sp_fewest 38 rfl) rfl) ?_
                      refine J_br (w_icmp_eq C (jd jdt_Sp_fewest 39 rfl) rfl) (fun h10 => J_pos h10 ?_) (fun h10 => J_neg h10 ?_)
                      · refine J_mono (w_aload_n C (jd jdt_Sp_fewest 41 rfl) rfl) ?_
                        refine J_mono (w_iload C (jd jdt_Sp_fewest 42 rfl) rfl) ?_
                        refine J_seq (fun (q11 : Int32) => Wk p l e R s m args below meth c G 9 Q 0 0 jN0 (jce G M) 99 [some (.ref y0), some (.int y1), some (.int y2), some (.int y3), some (.int y4), some (.int y5), some (.int y6), some (.int x7), none] [.int q11, .ref y0]) ?_ (fun q11 hq11 => ?_)
                        · refine J_br (w_if_eq (y := 0) C (jd jdt_Sp_fewest 43 rfl) rfl) (fun h12 => J_pos h12 ?_) (fun h12 => J_neg h12 ?_)
                          · refine J_mono (w_iload C (jd jdt_Sp_fewest 46 rfl) rfl) ?_
                            refine J_mono (w_iload C (jd jdt_Sp_fewest 47 rfl) rfl) ?_
                            refine J_mono (w_isub C (jd jdt_Sp_fewest 48 rfl)) ?_
                            exact J_some (fun hx => Wk_sb hx ⟨rfl, rfl, rfl, rfl, rfl, rfl, rfl, rfl, trivial⟩)
                          · refine J_mono (w_iload C (jd jdt_Sp_fewest 44 rfl) rfl) ?_
                            refine J_mono (w_goto C (jd jdt_Sp_fewest 45 rfl) rfl) ?_
                            exact J_some (fun hx => Wk_sb hx ⟨rfl, rfl, rfl, rfl, rfl, rfl, rfl, rfl, trivial⟩)
                        · refine J_mono (w_iload_n C (jd jdt_Sp_fewest 49 rfl) rfl) ?_
                          refine J_bind (fun q13 hq13 => ?_)
                          refine J_mono (jc_Sp_323 C hy0 (C_Sp_playSilent l G F y0 q11 y2 hy0 M hq13) rfl (Nat.le_trans (Nat.le_of_ble_eq_true rfl : 9 + 1 ≤ 10) hD) (jd jdt_Sp_fewest 50 rfl)) ?_
                          refine J_mono (w_iload C (jd jdt_Sp_fewest 51 rfl) rfl) ?_
                          refine J_seq (fun (q14 : Int32) => Wk p l e R s m args below meth c G 9 Q 0 0 jN0 (jce G q13) 135 [some (.ref y0), some (.int y1), some (.int y2), some (.int y3), some (.int y4), some (.int y5), some (.int y6), some (.int x7), none] [.int q14]) ?_ (fun q14 hq14 => ?_)
                          · refine J_br (w_if_eq (y := 0) C (jd jdt_Sp_fewest 52 rfl) rfl) (fun h15 => J_pos h15 ?_) (fun h15 => J_neg h15 ?_)
                            · refine J_mono (w_aload_n C (jd jdt_Sp_fewest 60 rfl) rfl) ?_
                              refine J_mono (jg_Sp_70 C hy0 (jd jdt_Sp_fewest 61 rfl)) ?_
                              refine J_mono (w_aload_n C (jd jdt_Sp_fewest 62 rfl) rfl) ?_
                              refine J_mono (jg_Sp_37 C hy0 (jd jdt_Sp_fewest 63 rfl)) ?_
                              refine J_mono (w_iload_n C (jd jdt_Sp_fewest 64 rfl) rfl) ?_
                              refine J_bind (fun q16 hq16 => ?_)
                              refine J_mono (jc_Sp_330 C (jkf_11_7 hy0) (C_Po_isLast l G F (jpf y0 7) (jop (q13.1 y0 8)) y1 (jkf_11_7 hy0) (jop_kd _) q13 hq16) rfl (Nat.le_trans (Nat.le_of_ble_eq_true rfl : 2 + 1 ≤ 10) hD) (jd jdt_Sp_fewest 65 rfl)) ?_
                              exact J_some (fun hx => Wk_sb hx ⟨rfl, rfl, rfl, rfl, rfl, rfl, rfl, rfl, trivial⟩)
                            · refine J_mono (w_aload_n C (jd jdt_Sp_fewest 53 rfl) rfl) ?_
                              refine J_mono (jg_Sp_70 C hy0 (jd jdt_Sp_fewest 54 rfl)) ?_
                              refine J_mono (w_aload_n C (jd jdt_Sp_fewest 55 rfl) rfl) ?_
                              refine J_mono (jg_Sp_37 C hy0 (jd jdt_Sp_fewest 56 rfl)) ?_
                              refine J_mono (w_iload_n C (jd jdt_Sp_fewest 57 rfl) rfl) ?_
                              refine J_bind (fun q17 hq17 => ?_)
                              refine J_mono (jc_Sp_327 C (jkf_11_7 hy0) (C_Po_isAground l G F (jpf y0 7) (jop (q13.1 y0 8)) y1 (jkf_11_7 hy0) (jop_kd _) q13 hq17) rfl (Nat.le_trans (Nat.le_of_ble_eq_true rfl : 3 + 1 ≤ 10) hD) (jd jdt_Sp_fewest 58 rfl)) ?_
                              refine J_mono (w_goto C (jd jdt_Sp_fewest 59 rfl) rfl) ?_
                              exact J_some (fun hx => Wk_sb hx ⟨rfl, rfl, rfl, rfl, rfl, rfl, rfl, rfl, trivial⟩)
                          · refine J_mono (w_istore (ls' := [some (.ref y0), some (.int y1), some (.int y2), some (.int y3), some (.int y4), some (.int y5), some (.int y6), some (.int x7), some (.int q14)]) C (jd jdt_Sp_fewest 66 rfl) (by decide) rfl rfl) ?_
                            refine J_mono (w_iload C (jd jdt_Sp_fewest 67 rfl) rfl) ?_
                            refine J_br (w_if_eq (y := 0) C (jd jdt_Sp_fewest 68 rfl) rfl) (fun h18 => J_pos h18 ?_) (fun h18 => J_neg h18 ?_)
                            · refine J_mono (w_iinc (v := x7 + 1) (ls' := [some (.ref y0), some (.int y1), some (.int y2), some (.int y3), some (.int y4), some (.int y5), some (.int y6), some (.int (x7 + 1)), some (.int q14)]) C (jd jdt_Sp_fewest 75 rfl) rfl rfl (by decide) rfl rfl) ?_
                              refine J_mono (w_goto C (jd jdt_Sp_fewest 76 rfl) rfl) ?_
                              exact J_sub (ih (x7 + 1) q13) ⟨rfl, rfl, rfl, rfl, rfl, rfl, rfl, rfl, trivial⟩
                            · refine J_mono (w_iload_n C (jd jdt_Sp_fewest 69 rfl) rfl) ?_
                              refine J_br (w_if_ne (y := 0) C (jd jdt_Sp_fewest 70 rfl) rfl) (fun h19 => J_pos h19 ?_) (fun h19 => J_neg h19 ?_)
                              · refine J_mono (w_iload C (jd jdt_Sp_fewest 71 rfl) rfl) ?_
                                refine J_mono (w_goto C (jd jdt_Sp_fewest 72 rfl) rfl) ?_
                                exact J_some (fun hx => hR y6 q13 hx _ _ (jd jdt_Sp_fewest 74 rfl) rfl)
                              · refine J_mono (w_iload C (jd jdt_Sp_fewest 73 rfl) rfl) ?_
                                exact J_some (fun hx => hR x7 q13 hx _ _ (jd jdt_Sp_fewest 74 rfl) rfl)
                      · refine J_mono (w_goto C (jd jdt_Sp_fewest 40 rfl) rfl) ?_
                        refine J_mono (w_iinc (v := x7 + 1) (ls' := [some (.ref y0), some (.int y1), some (.int y2), some (.int y3), some (.int y4), some (.int y5), some (.int y6), some (.int (x7 + 1)), none]) C (jd jdt_Sp_fewest 75 rfl) rfl rfl (by decide) rfl rfl) ?_
                        refine J_mono (w_goto C (jd jdt_Sp_fewest 76 rfl) rfl) ?_
                        exact J_sub (ih (x7 + 1) M) ⟨rfl, rfl, rfl, rfl, rfl, rfl, rfl, rfl, trivial⟩
                refine J_sb (fun (q20 : SM) => Wk p l e R s m args below meth c G 9 Q 0 0 jN0 (jce G q20) 160 [some (.ref y0), some (.int y1), some (.int y2), some (.int y3), some (.int y4), some (.int y5), some (.int x6), none, none] []) (J_sub (L63 y0 y1 y2 y3 y4 y5 x6 hy0 jfuel 0 M) ⟨rfl, rfl, rfl, rfl, rfl, rfl, rfl, rfl, trivial⟩) (fun q20 => ?_)
                refine J_mono (w_iinc (v := x6 + 1) (ls' := [some (.ref y0), some (.int y1), some (.int y2), some (.int y3), some (.int y4), some (.int y5), some (.int (x6 + 1)), none, none]) C (jd jdt_Sp_fewest 77 rfl) rfl rfl (by decide) rfl rfl) ?_
                refine J_mono (w_goto C (jd jdt_Sp_fewest 78 rfl) rfl) ?_
                exact J_sub (ih (x6 + 1) q20) ⟨rfl, rfl, rfl, rfl, rfl, rfl, rfl, trivial⟩
          refine J_sb (fun (q21 : SM) => Wk p l e R s m args below meth c G 9 Q 0 0 jN0 (jce G q21) 166 [none, none, none, none, none, none, none, none, none] []) (J_sub (L48 a0 a1 a2 a3 a4 ((1 <<< ((M.1 (jop (M.1 a0 8)) 4) &&& 31)) - 1) hp0 jfuel 0 M) ⟨rfl, rfl, rfl, rfl, rfl, rfl, rfl, trivial⟩) (fun q21 => ?_)
          refine J_mono (w_iconst_m1 C (jd jdt_Sp_fewest 79 rfl)) ?_
          exact J_some (fun hx => hR (-1) q21 hx _ _ (jd jdt_Sp_fewest 80 rfl) rfl)
end
theorem C_Sp_fewest (l : Launch) (G : JG) (F : jF G = false) (a0 : Nat) (a1 : Int32) (a2 : Int32) (a3 : Int32) (a4 : Int32) (hp0 : jkd a0 11) (M : SM) {q : (Int32 × SM)} (hf : f_Sp_fewest a0 a1 a2 a3 a4 M = some q) : jMet l jy_Sp_fewest jb_Sp_fewest 9 (some FieldType.int) 10 0 0 G [.ref a0, .int a1, .int a2, .int a3, .int a4] jN0 (jce G M) (some (.int q.1)) jN0 (jce G q.2) :=
  j_met jo_Sp_fewest (by decide) (Nat.le_of_ble_eq_true rfl) (fun p e s m args below meth c C hr hm => K_Sp_fewest C F (Nat.le_refl _) a0 a1 a2 a3 a4 hp0 M (fun t => t = q) (fun v M' hX pc ls hd hn => by cases hX; exact w_iret C hr hn hd) _ hf rfl)
def f_Sp_stop (a0 : Nat) (a1 : Int32) (a2 : Int32) (a3 : Int32) (M : SM) : Option (Int32 × SM) := (f_Sp_fewest a0 a1 a2 a3 1 M).bind fun q1 => some (q1.1, q1.2)
section
variable {p : Program} {l : Launch} {e : Env} {R : Room} {s : State} {m : MethodId} {args : Array Value} {below : List Frame} {meth : Method} {c : Code} {G : JG} {D : Nat} {Q : State → Prop}
set_option maxHeartbeats 4000000 in
set_option maxRecDepth 20000 in
theorem K_Sp_stop (C : jCx p R s m args meth c G jb_Sp_stop 4 D "SluicePit") (F : jF G = false) (hD : 11 ≤ D) (a0 : Nat) (a1 : Int32) (a2 : Int32) (a3 : Int32) (hp0 : jkd a0 11) (M : SM) (X : (Int32 × SM) → Prop) (hR : ∀ v M', X (v, M') → ∀ (pc : Nat) (ls : List (Option Value)), decode jb_Sp_stop pc = .ok (.ireturn, 1) → narrow FieldType.int (.int v) = .int v → Wk p l e R s m args below meth c G 4 Q 0 0 jN0 (jce G M') pc ls [.int v]) : J X (f_Sp_stop a0 a1 a2 a3 M) (Wk p l e R s m args below meth c G 4 Q 0 0 jN0 (jce G M) 0 [some (.ref a0), some (.int a1), some (.int a2), some (.int a3)] []) := by
  unfold f_Sp_stop
  refine J_mono (w_aload_n C (jd jdt_Sp_stop 0 rfl) rfl) ?_
  refine J_mono (w_iload_n C (jd jdt_Sp_stop 1 rfl) rfl) ?_
  refine J_mono (w_iload_n C (jd jdt_Sp_stop 2 rfl) rfl) ?_
  refine J_mono (w_iload_n C (jd jdt_Sp_stop 3 rfl) rfl) ?_
  refine J_mono (w_iconst_1 C (jd jdt_Sp_stop 4 rfl)) ?_
  refine J_bind (fun q1 hq1 => ?_)
  refine J_mono (jc_Sp_268 C hp0 (C_Sp_fewest l G F a0 a1 a2 a3 1 hp0 M hq1) rfl (Nat.le_trans (Nat.le_of_ble_eq_true rfl : 10 + 1 ≤ 11) hD) (jd jdt_Sp_stop 5 rfl)) ?_
  exact J_some (fun hx => hR q1.1 q1.2 hx _ _ (jd jdt_Sp_stop 6 rfl) rfl)
end
theorem C_Sp_stop (l : Launch) (G : JG) (F : jF G = false) (a0 : Nat) (a1 : Int32) (a2 : Int32) (a3 : Int32) (hp0 : jkd a0 11) (M : SM) {q : (Int32 × SM)} (hf : f_Sp_stop a0 a1 a2 a3 M = some q) : jMet l jy_Sp_stop jb_Sp_stop 4 (some FieldType.int) 11 0 0 G [.ref a0, .int a1, .int a2, .int a3] jN0 (jce G M) (some (.int q.1)) jN0 (jce G q.2) :=
  j_met jo_Sp_stop (by decide) (Nat.le_of_ble_eq_true rfl) (fun p e s m args below meth c C hr hm => K_Sp_stop C F (Nat.le_refl _) a0 a1 a2 a3 hp0 M (fun t => t = q) (fun v M' hX pc ls hd hn => by cases hX; exact w_iret C hr hn hd) _ hf rfl)
def f_Sp_bring (a0 : Nat) (a1 : Int32) (a2 : Int32) (a3 : Int32) (M : SM) : Option (Int32 × SM) := (f_Sp_fewest a0 a1 a2 a3 0 M).bind fun q1 => some (q1.1, q1.2)
section
variable {p : Program} {l : Launch} {e : Env} {R : Room} {s : State} {m : MethodId} {args : Array Value} {below : List Frame} {meth : Method} {c : Code} {G : JG} {D : Nat} {Q : State → Prop}
set_option maxHeartbeats 4000000 in
set_option maxRecDepth 20000 in
theorem K_Sp_bring (C : jCx p R s m args meth c G jb_Sp_bring 4 D "SluicePit") (F : jF G = false) (hD : 11 ≤ D) (a0 : Nat) (a1 : Int32) (a2 : Int32) (a3 : Int32) (hp0 : jkd a0 11) (M : SM) (X : (Int32 × SM) → Prop) (hR : ∀ v M', X (v, M') → ∀ (pc : Nat) (ls : List (Option Value)), decode jb_Sp_bring pc = .ok (.ireturn, 1) → narrow FieldType.int (.int v) = .int v → Wk p l e R s m args below meth c G 4 Q 0 0 jN0 (jce G M') pc ls [.int v]) : J X (f_Sp_bring a0 a1 a2 a3 M) (Wk p l e R s m args below meth c G 4 Q 0 0 jN0 (jce G M) 0 [some (.ref a0), some (.int a1), some (.int a2), some (.int a3)] []) := by
  unfold f_Sp_bring
  refine J_mono (w_aload_n C (jd jdt_Sp_bring 0 rfl) rfl) ?_
  refine J_mono (w_iload_n C (jd jdt_Sp_bring 1 rfl) rfl) ?_
  refine J_mono (w_iload_n C (jd jdt_Sp_bring 2 rfl) rfl) ?_
  refine J_mono (w_iload_n C (jd jdt_Sp_bring 3 rfl) rfl) ?_
  refine J_mono (w_iconst_0 C (jd jdt_Sp_bring 4 rfl)) ?_
  refine J_bind (fun q1 hq1 => ?_)
  refine J_mono (jc_Sp_268 C hp0 (C_Sp_fewest l G F a0 a1 a2 a3 0 hp0 M hq1) rfl (Nat.le_trans (Nat.le_of_ble_eq_true rfl : 10 + 1 ≤ 11) hD) (jd jdt_Sp_bring 5 rfl)) ?_
  exact J_some (fun hx => hR q1.1 q1.2 hx _ _ (jd jdt_Sp_bring 6 rfl) rfl)
end
theorem C_Sp_bring (l : Launch) (G : JG) (F : jF G = false) (a0 : Nat) (a1 : Int32) (a2 : Int32) (a3 : Int32) (hp0 : jkd a0 11) (M : SM) {q : (Int32 × SM)} (hf : f_Sp_bring a0 a1 a2 a3 M = some q) : jMet l jy_Sp_bring jb_Sp_bring 4 (some FieldType.int) 11 0 0 G [.ref a0, .int a1, .int a2, .int a3] jN0 (jce G M) (some (.int q.1)) jN0 (jce G q.2) :=
  j_met jo_Sp_bring (by decide) (Nat.le_of_ble_eq_true rfl) (fun p e s m args below meth c C hr hm => K_Sp_bring C F (Nat.le_refl _) a0 a1 a2 a3 hp0 M (fun t => t = q) (fun v M' hX pc ls hd hn => by cases hX; exact w_iret C hr hn hd) _ hf rfl)
def lp_Sp_wet_39 (y0 : Nat) : Nat → Int32 → SM → Option (SM)
  | 0, _, _ => none
  | n + 1, x2, M => if x2 < (nI (jln (jpf y0 10))) then ((f_Ta_read (jpf y0 0) x2 M).bind fun q7 => (aS M (jpf y0 10) x2 q7).bind fun M8 => lp_Sp_wet_39 y0 n (x2 + 1) M8) else (some M)
def f_Sp_wet (a0 : Nat) (M : SM) : Option (Int32 × SM) := (if 0 < (M.1 (jop (M.1 a0 8)) 1) then (if (M.1 (jpf a0 0) 1) = (M.1 (jop (M.1 a0 8)) 1) then (some 1) else (some 0)) else (some 0) : Option (Int32)).bind fun q1 => (if q1 = 0 then (some M) else ((lp_Sp_wet_39 a0 jfuel 0 M).bind fun q9 => some (sI q9 a0 11 1)) : Option (SM)).bind fun q4 => (bchk q1).bind fun b10 => some (b10, sI q4 (jpf a0 0) 1 0)
section
variable {p : Program} {l : Launch} {e : Env} {R : Room} {s : State} {m : MethodId} {args : Array Value} {below : List Frame} {meth : Method} {c : Code} {G : JG} {D : Nat} {Q : State → Prop}
set_option maxHeartbeats 4000000 in
set_option maxRecDepth 20000 in
theorem K_Sp_wet (C : jCx p R s m args meth c G jb_Sp_wet 3 D "SluicePit") (F : jF G = false) (hD : 2 ≤ D) (a0 : Nat) (hp0 : jkd a0 11) (M : SM) (X : (Int32 × SM) → Prop) (hR : ∀ v M', X (v, M') → ∀ (pc : Nat) (ls : List (Option Value)), decode jb_Sp_wet pc = .ok (.ireturn, 1) → narrow FieldType.boolean (.int v) = .int v → Wk p l e R s m args below meth c G 3 Q 0 0 jN0 (jce G M') pc ls [.int v]) : J X (f_Sp_wet a0 M) (Wk p l e R s m args below meth c G 3 Q 0 0 jN0 (jce G M) 0 [some (.ref a0), none, none] []) := by
  unfold f_Sp_wet
  refine J_mono (w_aload_n C (jd jdt_Sp_wet 0 rfl) rfl) ?_
  refine J_mono (jg_Sp_37 C hp0 (jd jdt_Sp_wet 1 rfl)) ?_
  refine J_mono (jg_Sp_132 C (jop_kd _) (jd jdt_Sp_wet 2 rfl)) ?_
  refine J_seq (fun (q1 : Int32) => Wk p l e R s m args below meth c G 3 Q 0 0 jN0 (jce G M) 32 [some (.ref a0), none, none] [.int q1]) ?_ (fun q1 hq1 => ?_)
  · refine J_br (w_if_le (y := 0) C (jd jdt_Sp_wet 3 rfl) rfl) (fun h2 => J_pos h2 ?_) (fun h2 => J_neg h2 ?_)
    · refine J_mono (w_aload_n C (jd jdt_Sp_wet 4 rfl) rfl) ?_
      refine J_mono (jg_Sp_12 C hp0 (jd jdt_Sp_wet 5 rfl)) ?_
      refine J_mono (jg_Sp_102 C (jkf_11_0 hp0) (jd jdt_Sp_wet 6 rfl)) ?_
      refine J_mono (w_aload_n C (jd jdt_Sp_wet 7 rfl) rfl) ?_
      refine J_mono (jg_Sp_37 C hp0 (jd jdt_Sp_wet 8 rfl)) ?_
      refine J_mono (jg_Sp_132 C (jop_kd _) (jd jdt_Sp_wet 9 rfl)) ?_
      refine J_br (w_icmp_ne C (jd jdt_Sp_wet 10 rfl) rfl) (fun h3 => J_pos h3 ?_) (fun h3 => J_neg h3 ?_)
      · refine J_mono (w_iconst_1 C (jd jdt_Sp_wet 11 rfl)) ?_
        refine J_mono (w_goto C (jd jdt_Sp_wet 12 rfl) rfl) ?_
        exact J_some (fun hx => Wk_sb hx ⟨rfl, trivial⟩)
      · refine J_mono (w_iconst_0 C (jd jdt_Sp_wet 13 rfl)) ?_
        exact J_some (fun hx => Wk_sb hx ⟨rfl, trivial⟩)
    · refine J_mono (w_iconst_0 C (jd jdt_Sp_wet 13 rfl)) ?_
      exact J_some (fun hx => Wk_sb hx ⟨rfl, trivial⟩)
  · refine J_mono (w_istore_n (ls' := [some (.ref a0), some (.int q1), none]) C (jd jdt_Sp_wet 14 rfl) (by decide) rfl rfl) ?_
    refine J_mono (w_iload_n C (jd jdt_Sp_wet 15 rfl) rfl) ?_
    refine J_seq (fun (q4 : SM) => Wk p l e R s m args below meth c G 3 Q 0 0 jN0 (jce G q4) 73 [some (.ref a0), some (.int q1), none] []) ?_ (fun q4 hq4 => ?_)
    · refine J_br (w_if_eq (y := 0) C (jd jdt_Sp_wet 16 rfl) rfl) (fun h5 => J_pos h5 ?_) (fun h5 => J_neg h5 ?_)
      · exact J_some (fun hx => Wk_sb hx ⟨rfl, rfl, trivial⟩)
      · refine J_mono (w_iconst_0 C (jd jdt_Sp_wet 17 rfl)) ?_
        refine J_mono (w_istore_n (ls' := [some (.ref a0), some (.int q1), some (.int 0)]) C (jd jdt_Sp_wet 18 rfl) (by decide) rfl rfl) ?_
        have L39 : ∀ (y0 : Nat) (y1 : Int32) (hy0 : jkd y0 11) (n : Nat) (x2 : Int32) (M : SM), J (fun (q9 : SM) => Wk p l e R s m args below meth c G 3 Q 0 0 jN0 (jce G q9) 68 [some (.ref y0), some (.int y1), none] []) (lp_Sp_wet_39 y0 n x2 M) (Wk p l e R s m args below meth c G 3 Q 0 0 jN0 (jce G M) 39 [some (.ref y0), some (.int y1), some (.int x2)] []) := by
          intro y0 y1 hy0 n
          induction n with
          | zero => intro x2 M; exact J_none
          | succ n ih =>
            intro x2 M
            unfold lp_Sp_wet_39
            refine J_mono (w_iload_n C (jd jdt_Sp_wet 19 rfl) rfl) ?_
            refine J_mono (w_aload_n C (jd jdt_Sp_wet 20 rfl) rfl) ?_
            refine J_mono (jg_Sp_83 C hy0 (jd jdt_Sp_wet 21 rfl)) ?_
            refine J_mono (w_alen C (.inl (jkf_11_10 hy0)) (jd jdt_Sp_wet 22 rfl)) ?_
            refine J_br (w_icmp_ge C (jd jdt_Sp_wet 23 rfl) rfl) (fun h6 => J_pos h6 ?_) (fun h6 => J_neg h6 ?_)
            · refine J_mono (w_aload_n C (jd jdt_Sp_wet 24 rfl) rfl) ?_
              refine J_mono (jg_Sp_83 C hy0 (jd jdt_Sp_wet 25 rfl)) ?_
              refine J_mono (w_iload_n C (jd jdt_Sp_wet 26 rfl) rfl) ?_
              refine J_mono (w_aload_n C (jd jdt_Sp_wet 27 rfl) rfl) ?_
              refine J_mono (jg_Sp_12 C hy0 (jd jdt_Sp_wet 28 rfl)) ?_
              refine J_mono (w_iload_n C (jd jdt_Sp_wet 29 rfl) rfl) ?_
              refine J_bind (fun q7 hq7 => ?_)
              refine J_mono (jc_Sp_272 C (jkf_11_0 hy0) (C_Ta_read l G F (jpf y0 0) x2 (jkf_11_0 hy0) M hq7) rfl (Nat.le_trans (Nat.le_of_ble_eq_true rfl : 1 + 1 ≤ 2) hD) (jd jdt_Sp_wet 30 rfl)) ?_
              refine J_bind (fun M8 hM8 => ?_)
              refine J_mono (w_iast C F (jkf_11_10 hy0) hM8 (jd jdt_Sp_wet 31 rfl)) ?_
              refine J_mono (w_iinc (v := x2 + 1) (ls' := [some (.ref y0), some (.int y1), some (.int (x2 + 1))]) C (jd jdt_Sp_wet 32 rfl) rfl rfl (by decide) rfl rfl) ?_
              refine J_mono (w_goto C (jd jdt_Sp_wet 33 rfl) rfl) ?_
              exact J_sub (ih (x2 + 1) M8) ⟨rfl, rfl, rfl, trivial⟩
            · exact J_some (fun hx => Wk_sb hx ⟨rfl, rfl, trivial⟩)
        refine J_seq (fun (q9 : SM) => Wk p l e R s m args below meth c G 3 Q 0 0 jN0 (jce G q9) 68 [some (.ref a0), some (.int q1), none] []) (J_sub (L39 a0 q1 hp0 jfuel 0 M) ⟨rfl, rfl, rfl, trivial⟩) (fun q9 hq9 => ?_)
        refine J_mono (w_aload_n C (jd jdt_Sp_wet 34 rfl) rfl) ?_
        refine J_mono (w_iconst_1 C (jd jdt_Sp_wet 35 rfl)) ?_
        refine J_mono (jp_Sp_87 C F hp0 (Or.inr rfl) (jd jdt_Sp_wet 36 rfl)) ?_
        exact J_some (fun hx => Wk_sb hx ⟨rfl, rfl, trivial⟩)
    · refine J_mono (w_aload_n C (jd jdt_Sp_wet 37 rfl) rfl) ?_
      refine J_mono (jg_Sp_12 C hp0 (jd jdt_Sp_wet 38 rfl)) ?_
      refine J_mono (w_iconst_0 C (jd jdt_Sp_wet 39 rfl)) ?_
      refine J_mono (jp_Sp_102 C F (jkf_11_0 hp0) (jd jdt_Sp_wet 40 rfl)) ?_
      refine J_mono (w_iload_n C (jd jdt_Sp_wet 41 rfl) rfl) ?_
      refine J_bind (fun b10 hb10 => ?_)
      obtain rfl := bchk_e hb10
      exact J_some (fun hx => hR _ (sI q4 (jpf a0 0) 1 0) hx _ _ (jd jdt_Sp_wet 42 rfl) (bchk_n hb10))
end
theorem C_Sp_wet (l : Launch) (G : JG) (F : jF G = false) (a0 : Nat) (hp0 : jkd a0 11) (M : SM) {q : (Int32 × SM)} (hf : f_Sp_wet a0 M = some q) : jMet l jy_Sp_wet jb_Sp_wet 3 (some FieldType.boolean) 2 0 0 G [.ref a0] jN0 (jce G M) (some (.int q.1)) jN0 (jce G q.2) :=
  j_met jo_Sp_wet (by decide) (Nat.le_of_ble_eq_true rfl) (fun p e s m args below meth c C hr hm => K_Sp_wet C F (Nat.le_refl _) a0 hp0 M (fun t => t = q) (fun v M' hX pc ls hd hn => by cases hX; exact w_iret C hr hn hd) _ hf rfl)
def lp_Sp_isWetWithout_33 (y0 : Nat) (y3 : Int32) : Nat → Int32 → SM → Option (SM)
  | 0, _, _ => none
  | n + 1, x4, M => if y3 < x4 then (some M) else ((f_Po_play (jpf y0 7) (jop (M.1 y0 8)) x4 M).bind fun q3 => lp_Sp_isWetWithout_33 y0 y3 n (x4 + 1) q3)
def lp_Sp_isWetWithout_61 (y0 : Nat) (M : SM) : Nat → Int32 → Option ((Unit) ⊕ (Int32 × SM))
  | 0, _ => none
  | n + 1, x4 => if x4 < (M.1 (jop (M.1 y0 8)) 1) then ((f_Sp_at (jpf (jpf y0 7) 0) x4 M).bind fun q6 => (f_Sp_at (jpf y0 10) x4 M).bind fun q7 => if q6 = q7 then (lp_Sp_isWetWithout_61 y0 M n (x4 + 1)) else (some (.inr (0, M)))) else (some (.inl ()))
def f_Sp_isWetWithout (a0 : Nat) (a1 : Int32) (a2 : Int32) (a3 : Int32) (M : SM) : Option (Int32 × SM) := (f_Po_begin (jpf a0 7) (jpf a0 6) (a2 - 1) M).bind fun q1 => (lp_Sp_isWetWithout_33 a0 a3 jfuel a2 (sI (sI q1 (jpf a0 7) 8 a1) (jpf a0 7) 9 a2)).bind fun q4 => jsb (lp_Sp_isWetWithout_61 a0 q4 jfuel 0) id fun q9 => some (1, q4)
section
variable {p : Program} {l : Launch} {e : Env} {R : Room} {s : State} {m : MethodId} {args : Array Value} {below : List Frame} {meth : Method} {c : Code} {G : JG} {D : Nat} {Q : State → Prop}
set_option maxHeartbeats 4000000 in
set_option maxRecDepth 20000 in
theorem K_Sp_isWetWithout (C : jCx p R s m args meth c G jb_Sp_isWetWithout 5 D "SluicePit") (F : jF G = false) (hD : 9 ≤ D) (a0 : Nat) (a1 : Int32) (a2 : Int32) (a3 : Int32) (hp0 : jkd a0 11) (M : SM) (X : (Int32 × SM) → Prop) (hR : ∀ v M', X (v, M') → ∀ (pc : Nat) (ls : List (Option Value)), decode jb_Sp_isWetWithout pc = .ok (.ireturn, 1) → narrow FieldType.boolean (.int v) = .int v → Wk p l e R s m args below meth c G 5 Q 0 0 jN0 (jce G M') pc ls [.int v]) : J X (f_Sp_isWetWithout a0 a1 a2 a3 M) (Wk p l e R s m args below meth c G 5 Q 0 0 jN0 (jce G M) 0 [some (.ref a0), some (.int a1), some (.int a2), some (.int a3), none] []) := by
  unfold f_Sp_isWetWithout
  refine J_mono (w_aload_n C (jd jdt_Sp_isWetWithout 0 rfl) rfl) ?_
  refine J_mono (jg_Sp_70 C hp0 (jd jdt_Sp_isWetWithout 1 rfl)) ?_
  refine J_mono (w_aload_n C (jd jdt_Sp_isWetWithout 2 rfl) rfl) ?_
  refine J_mono (jg_Sp_63 C hp0 (jd jdt_Sp_isWetWithout 3 rfl)) ?_
  refine J_mono (w_iload_n C (jd jdt_Sp_isWetWithout 4 rfl) rfl) ?_
  refine J_mono (w_iconst_1 C (jd jdt_Sp_isWetWithout 5 rfl)) ?_
  refine J_mono (w_isub C (jd jdt_Sp_isWetWithout 6 rfl)) ?_
  refine J_bind (fun q1 hq1 => ?_)
  refine J_mono (jc_Sp_283 C (jkf_11_7 hp0) (C_Po_begin l G F (jpf a0 7) (jpf a0 6) (a2 - 1) (jkf_11_7 hp0) (jkf_11_6 hp0) M hq1) rfl (Nat.le_trans (Nat.le_of_ble_eq_true rfl : 3 + 1 ≤ 9) hD) (jd jdt_Sp_isWetWithout 7 rfl)) ?_
  refine J_mono (w_aload_n C (jd jdt_Sp_isWetWithout 8 rfl) rfl) ?_
  refine J_mono (jg_Sp_70 C hp0 (jd jdt_Sp_isWetWithout 9 rfl)) ?_
  refine J_mono (w_iload_n C (jd jdt_Sp_isWetWithout 10 rfl) rfl) ?_
  refine J_mono (jp_Sp_336 C F (jkf_11_7 hp0) (jd jdt_Sp_isWetWithout 11 rfl)) ?_
  refine J_mono (w_aload_n C (jd jdt_Sp_isWetWithout 12 rfl) rfl) ?_
  refine J_mono (jg_Sp_70 C hp0 (jd jdt_Sp_isWetWithout 13 rfl)) ?_
  refine J_mono (w_iload_n C (jd jdt_Sp_isWetWithout 14 rfl) rfl) ?_
  refine J_mono (jp_Sp_339 C F (jkf_11_7 hp0) (jd jdt_Sp_isWetWithout 15 rfl)) ?_
  refine J_mono (w_iload_n C (jd jdt_Sp_isWetWithout 16 rfl) rfl) ?_
  refine J_mono (w_istore (ls' := [some (.ref a0), some (.int a1), some (.int a2), some (.int a3), some (.int a2)]) C (jd jdt_Sp_isWetWithout 17 rfl) (by decide) rfl rfl) ?_
  have L33 : ∀ (y0 : Nat) (y3 : Int32) (hy0 : jkd y0 11) (n : Nat) (x4 : Int32) (M : SM), J (fun (q4 : SM) => Wk p l e R s m args below meth c G 5 Q 0 0 jN0 (jce G q4) 58 [some (.ref y0), none, none, none, none] []) (lp_Sp_isWetWithout_33 y0 y3 n x4 M) (Wk p l e R s m args below meth c G 5 Q 0 0 jN0 (jce G M) 33 [some (.ref y0), none, none, some (.int y3), some (.int x4)] []) := by
    intro y0 y3 hy0 n
    induction n with
    | zero => intro x4 M; exact J_none
    | succ n ih =>
      intro x4 M
      unfold lp_Sp_isWetWithout_33
      refine J_mono (w_iload C (jd jdt_Sp_isWetWithout 18 rfl) rfl) ?_
      refine J_mono (w_iload_n C (jd jdt_Sp_isWetWithout 19 rfl) rfl) ?_
      refine J_br (w_icmp_gt C (jd jdt_Sp_isWetWithout 20 rfl) rfl) (fun h2 => J_pos h2 ?_) (fun h2 => J_neg h2 ?_)
      · exact J_some (fun hx => Wk_sb hx ⟨rfl, trivial⟩)
      · refine J_mono (w_aload_n C (jd jdt_Sp_isWetWithout 21 rfl) rfl) ?_
        refine J_mono (jg_Sp_70 C hy0 (jd jdt_Sp_isWetWithout 22 rfl)) ?_
        refine J_mono (w_aload_n C (jd jdt_Sp_isWetWithout 23 rfl) rfl) ?_
        refine J_mono (jg_Sp_37 C hy0 (jd jdt_Sp_isWetWithout 24 rfl)) ?_
        refine J_mono (w_iload C (jd jdt_Sp_isWetWithout 25 rfl) rfl) ?_
        refine J_bind (fun q3 hq3 => ?_)
        refine J_mono (jc_Sp_292 C (jkf_11_7 hy0) (C_Po_play l G F (jpf y0 7) (jop (M.1 y0 8)) x4 (jkf_11_7 hy0) (jop_kd _) M hq3) rfl (Nat.le_trans (Nat.le_of_ble_eq_true rfl : 8 + 1 ≤ 9) hD) (jd jdt_Sp_isWetWithout 26 rfl)) ?_
        refine J_mono (w_iinc (v := x4 + 1) (ls' := [some (.ref y0), none, none, some (.int y3), some (.int (x4 + 1))]) C (jd jdt_Sp_isWetWithout 27 rfl) rfl rfl (by decide) rfl rfl) ?_
        refine J_mono (w_goto C (jd jdt_Sp_isWetWithout 28 rfl) rfl) ?_
        exact J_sub (ih (x4 + 1) q3) ⟨rfl, rfl, rfl, trivial⟩
  refine J_seq (fun (q4 : SM) => Wk p l e R s m args below meth c G 5 Q 0 0 jN0 (jce G q4) 58 [some (.ref a0), none, none, none, none] []) (J_sub (L33 a0 a3 hp0 jfuel a2 (sI (sI q1 (jpf a0 7) 8 a1) (jpf a0 7) 9 a2)) ⟨rfl, rfl, rfl, trivial⟩) (fun q4 hq4 => ?_)
  refine J_mono (w_iconst_0 C (jd jdt_Sp_isWetWithout 29 rfl)) ?_
  refine J_mono (w_istore (ls' := [some (.ref a0), none, none, none, some (.int 0)]) C (jd jdt_Sp_isWetWithout 30 rfl) (by decide) rfl rfl) ?_
  have L61 : ∀ (y0 : Nat) (hy0 : jkd y0 11) (M : SM) (n : Nat) (x4 : Int32), J (Sum.elim (fun (q9 : Unit) => Wk p l e R s m args below meth c G 5 Q 0 0 jN0 (jce G M) 105 [none, none, none, none, none] []) X) (lp_Sp_isWetWithout_61 y0 M n x4) (Wk p l e R s m args below meth c G 5 Q 0 0 jN0 (jce G M) 61 [some (.ref y0), none, none, none, some (.int x4)] []) := by
    intro y0 hy0 M n
    induction n with
    | zero => intro x4; exact J_none
    | succ n ih =>
      intro x4
      unfold lp_Sp_isWetWithout_61
      refine J_mono (w_iload C (jd jdt_Sp_isWetWithout 31 rfl) rfl) ?_
      refine J_mono (w_aload_n C (jd jdt_Sp_isWetWithout 32 rfl) rfl) ?_
      refine J_mono (jg_Sp_37 C hy0 (jd jdt_Sp_isWetWithout 33 rfl)) ?_
      refine J_mono (jg_Sp_132 C (jop_kd _) (jd jdt_Sp_isWetWithout 34 rfl)) ?_
      refine J_br (w_icmp_ge C (jd jdt_Sp_isWetWithout 35 rfl) rfl) (fun h5 => J_pos h5 ?_) (fun h5 => J_neg h5 ?_)
      · refine J_mono (w_aload_n C (jd jdt_Sp_isWetWithout 36 rfl) rfl) ?_
        refine J_mono (jg_Sp_70 C hy0 (jd jdt_Sp_isWetWithout 37 rfl)) ?_
        refine J_mono (jg_Sp_342 C (jkf_11_7 hy0) (jd jdt_Sp_isWetWithout 38 rfl)) ?_
        refine J_mono (w_iload C (jd jdt_Sp_isWetWithout 39 rfl) rfl) ?_
        refine J_bind (fun q6 hq6 => ?_)
        refine J_mono (jc_Sp_198 C (C_Sp_at l G F (jpf (jpf y0 7) 0) x4 (jkf_5_0 (jkf_11_7 hy0)) M hq6) rfl (Nat.le_trans (Nat.le_of_ble_eq_true rfl : 1 + 1 ≤ 9) hD) (jd jdt_Sp_isWetWithout 40 rfl)) ?_
        refine J_mono (w_aload_n C (jd jdt_Sp_isWetWithout 41 rfl) rfl) ?_
        refine J_mono (jg_Sp_83 C hy0 (jd jdt_Sp_isWetWithout 42 rfl)) ?_
        refine J_mono (w_iload C (jd jdt_Sp_isWetWithout 43 rfl) rfl) ?_
        refine J_bind (fun q7 hq7 => ?_)
        refine J_mono (jc_Sp_198 C (C_Sp_at l G F (jpf y0 10) x4 (jkf_11_10 hy0) M hq7) rfl (Nat.le_trans (Nat.le_of_ble_eq_true rfl : 1 + 1 ≤ 9) hD) (jd jdt_Sp_isWetWithout 44 rfl)) ?_
        refine J_br (w_icmp_eq C (jd jdt_Sp_isWetWithout 45 rfl) rfl) (fun h8 => J_pos h8 ?_) (fun h8 => J_neg h8 ?_)
        · refine J_mono (w_iinc (v := x4 + 1) (ls' := [some (.ref y0), none, none, none, some (.int (x4 + 1))]) C (jd jdt_Sp_isWetWithout 48 rfl) rfl rfl (by decide) rfl rfl) ?_
          refine J_mono (w_goto C (jd jdt_Sp_isWetWithout 49 rfl) rfl) ?_
          exact J_sub (ih (x4 + 1)) ⟨rfl, rfl, trivial⟩
        · refine J_mono (w_iconst_0 C (jd jdt_Sp_isWetWithout 46 rfl)) ?_
          exact J_some (fun hx => hR 0 M hx _ _ (jd jdt_Sp_isWetWithout 47 rfl) rfl)
      · exact J_some (fun hx => Wk_sb hx trivial)
  refine J_sb (fun (q9 : Unit) => Wk p l e R s m args below meth c G 5 Q 0 0 jN0 (jce G q4) 105 [none, none, none, none, none] []) (J_sub (L61 a0 hp0 q4 jfuel 0) ⟨rfl, rfl, trivial⟩) (fun q9 => ?_)
  refine J_mono (w_iconst_1 C (jd jdt_Sp_isWetWithout 50 rfl)) ?_
  exact J_some (fun hx => hR 1 q4 hx _ _ (jd jdt_Sp_isWetWithout 51 rfl) rfl)
end
theorem C_Sp_isWetWithout (l : Launch) (G : JG) (F : jF G = false) (a0 : Nat) (a1 : Int32) (a2 : Int32) (a3 : Int32) (hp0 : jkd a0 11) (M : SM) {q : (Int32 × SM)} (hf : f_Sp_isWetWithout a0 a1 a2 a3 M = some q) : jMet l jy_Sp_isWetWithout jb_Sp_isWetWithout 5 (some FieldType.boolean) 9 0 0 G [.ref a0, .int a1, .int a2, .int a3] jN0 (jce G M) (some (.int q.1)) jN0 (jce G q.2) :=
  j_met jo_Sp_isWetWithout (by decide) (Nat.le_of_ble_eq_true rfl) (fun p e s m args below meth c C hr hm => K_Sp_isWetWithout C F (Nat.le_refl _) a0 a1 a2 a3 hp0 M (fun t => t = q) (fun v M' hX pc ls hd hn => by cases hX; exact w_iret C hr hn hd) _ hf rfl)
