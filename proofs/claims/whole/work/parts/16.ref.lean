def lp_Mo_feed_18 (y0 : Nat) (y1 : Int32) (y2 : Int32) (y3 : Int32) (y4 : Int32) (y5 : Int32) : Nat → Int32 → SM → Option (SM)
  | 0, _, _ => none
  | n + 1, x6, M => if x6 < 20 then ((if x6 < 4 then (some y1) else (if x6 < 8 then (some y2) else (if x6 < 12 then (some y3) else (if x6 < 16 then (some y4) else (some y5)))) : Option (Int32)).bind fun q3 => (aS M (jpf y0 0) (M.1 y0 1) ((q3 >>> ((8 * (3 - (x6 - x6 / 4 * 4))) &&& 31)) &&& 255)).bind fun M8 => lp_Mo_feed_18 y0 y1 y2 y3 y4 y5 n (x6 + 1) (sI M8 y0 1 ((M8.1 y0 1) + 1))) else (some M)
def f_Mo_feed (a0 : Nat) (a1 : Int32) (a2 : Int32) (a3 : Int32) (a4 : Int32) (a5 : Int32) (M : SM) : Option (Int32 × SM) := if 1600 < ((M.1 a0 1) + 20) then (some ((-1), M)) else ((lp_Mo_feed_18 a0 a1 a2 a3 a4 a5 jfuel 0 M).bind fun q9 => some (q9.1 a0 1, q9))
section
variable {p : Program} {l : Launch} {e : Env} {R : Room} {s : State} {m : MethodId} {args : Array Value} {below : List Frame} {meth : Method} {c : Code} {G : JG} {D : Nat} {Q : State → Prop}
set_option maxHeartbeats 4000000 in
set_option maxRecDepth 20000 in
theorem K_Mo_feed (C : jCx p R s m args meth c G jb_Mo_feed 8 D "SluicePitModel") (F : jF G = false) (hD : 1 ≤ D) (a0 : Nat) (a1 : Int32) (a2 : Int32) (a3 : Int32) (a4 : Int32) (a5 : Int32) (hp0 : jkd a0 12) (M : SM) (X : (Int32 × SM) → Prop) (hR : ∀ v M', X (v, M') → ∀ (pc : Nat) (ls : List (Option Value)), decode jb_Mo_feed pc = .ok (.ireturn, 1) → narrow FieldType.int (.int v) = .int v → Wk p l e R s m args below meth c G 8 Q 0 0 jN0 (jce G M') pc ls [.int v]) : J X (f_Mo_feed a0 a1 a2 a3 a4 a5 M) (Wk p l e R s m args below meth c G 8 Q 0 0 jN0 (jce G M) 0 [some (.ref a0), some (.int a1), some (.int a2), some (.int a3), some (.int a4), some (.int a5), none, none] []) := by
  unfold f_Mo_feed
  refine J_mono (w_aload_n C (jd jdt_Mo_feed 0 rfl) rfl) ?_
  refine J_mono (jg_Mo_215 C hp0 (jd jdt_Mo_feed 1 rfl)) ?_
  refine J_mono (w_bipush_20 C (jd jdt_Mo_feed 2 rfl)) ?_
  refine J_mono (w_iadd C (jd jdt_Mo_feed 3 rfl)) ?_
  refine J_mono (w_sipush_1600 C (jd jdt_Mo_feed 4 rfl)) ?_
  refine J_br (w_icmp_le C (jd jdt_Mo_feed 5 rfl) rfl) (fun h1 => J_pos h1 ?_) (fun h1 => J_neg h1 ?_)
  · refine J_mono (w_iconst_m1 C (jd jdt_Mo_feed 6 rfl)) ?_
    exact J_some (fun hx => hR (-1) M hx _ _ (jd jdt_Mo_feed 7 rfl) rfl)
  · refine J_mono (w_iconst_0 C (jd jdt_Mo_feed 8 rfl)) ?_
    refine J_mono (w_istore (ls' := [some (.ref a0), some (.int a1), some (.int a2), some (.int a3), some (.int a4), some (.int a5), some (.int 0), none]) C (jd jdt_Mo_feed 9 rfl) (by decide) rfl rfl) ?_
    have L18 : ∀ (y0 : Nat) (y1 : Int32) (y2 : Int32) (y3 : Int32) (y4 : Int32) (y5 : Int32) (hy0 : jkd y0 12) (n : Nat) (x6 : Int32) (M : SM), J (fun (q9 : SM) => Wk p l e R s m args below meth c G 8 Q 0 0 jN0 (jce G q9) 114 [some (.ref y0), none, none, none, none, none, none, none] []) (lp_Mo_feed_18 y0 y1 y2 y3 y4 y5 n x6 M) (Wk p l e R s m args below meth c G 8 Q 0 0 jN0 (jce G M) 18 [some (.ref y0), some (.int y1), some (.int y2), some (.int y3), some (.int y4), some (.int y5), some (.int x6), none] []) := by
      intro y0 y1 y2 y3 y4 y5 hy0 n
      induction n with
      | zero => intro x6 M; exact J_none
      | succ n ih =>
        intro x6 M
        unfold lp_Mo_feed_18
        refine J_mono (w_iload C (jd jdt_Mo_feed 10 rfl) rfl) ?_
        refine J_mono (w_bipush_20 C (jd jdt_Mo_feed 11 rfl)) ?_
        refine J_br (w_icmp_ge C (jd jdt_Mo_feed 12 rfl) rfl) (fun h2 => J_pos h2 ?_) (fun h2 => J_neg h2 ?_)
        · refine J_mono (w_iload C (jd jdt_Mo_feed 13 rfl) rfl) ?_
          refine J_mono (w_iconst_4 C (jd jdt_Mo_feed 14 rfl)) ?_
          refine J_seq (fun (q3 : Int32) => Wk p l e R s m args below meth c G 8 Q 0 0 jN0 (jce G M) 71 [some (.ref y0), some (.int y1), some (.int y2), some (.int y3), some (.int y4), some (.int y5), some (.int x6), none] [.int q3]) ?_ (fun q3 hq3 => ?_)
          · refine J_br (w_icmp_ge C (jd jdt_Mo_feed 15 rfl) rfl) (fun h4 => J_pos h4 ?_) (fun h4 => J_neg h4 ?_)
            · refine J_mono (w_iload_n C (jd jdt_Mo_feed 16 rfl) rfl) ?_
              refine J_mono (w_goto C (jd jdt_Mo_feed 17 rfl) rfl) ?_
              exact J_some (fun hx => Wk_sb hx ⟨rfl, rfl, rfl, rfl, rfl, rfl, rfl, trivial⟩)
            · refine J_mono (w_iload C (jd jdt_Mo_feed 18 rfl) rfl) ?_
              refine J_mono (w_bipush_8 C (jd jdt_Mo_feed 19 rfl)) ?_
              refine J_br (w_icmp_ge C (jd jdt_Mo_feed 20 rfl) rfl) (fun h5 => J_pos h5 ?_) (fun h5 => J_neg h5 ?_)
              · refine J_mono (w_iload_n C (jd jdt_Mo_feed 21 rfl) rfl) ?_
                refine J_mono (w_goto C (jd jdt_Mo_feed 22 rfl) rfl) ?_
                exact J_some (fun hx => Wk_sb hx ⟨rfl, rfl, rfl, rfl, rfl, rfl, rfl, trivial⟩)
              · refine J_mono (w_iload C (jd jdt_Mo_feed 23 rfl) rfl) ?_
                refine J_mono (w_bipush_12 C (jd jdt_Mo_feed 24 rfl)) ?_
                refine J_br (w_icmp_ge C (jd jdt_Mo_feed 25 rfl) rfl) (fun h6 => J_pos h6 ?_) (fun h6 => J_neg h6 ?_)
                · refine J_mono (w_iload_n C (jd jdt_Mo_feed 26 rfl) rfl) ?_
                  refine J_mono (w_goto C (jd jdt_Mo_feed 27 rfl) rfl) ?_
                  exact J_some (fun hx => Wk_sb hx ⟨rfl, rfl, rfl, rfl, rfl, rfl, rfl, trivial⟩)
                · refine J_mono (w_iload C (jd jdt_Mo_feed 28 rfl) rfl) ?_
                  refine J_mono (w_bipush_16 C (jd jdt_Mo_feed 29 rfl)) ?_
                  refine J_br (w_icmp_ge C (jd jdt_Mo_feed 30 rfl) rfl) (fun h7 => J_pos h7 ?_) (fun h7 => J_neg h7 ?_)
                  · refine J_mono (w_iload C (jd jdt_Mo_feed 31 rfl) rfl) ?_
                    refine J_mono (w_goto C (jd jdt_Mo_feed 32 rfl) rfl) ?_
                    exact J_some (fun hx => Wk_sb hx ⟨rfl, rfl, rfl, rfl, rfl, rfl, rfl, trivial⟩)
                  · refine J_mono (w_iload C (jd jdt_Mo_feed 33 rfl) rfl) ?_
                    exact J_some (fun hx => Wk_sb hx ⟨rfl, rfl, rfl, rfl, rfl, rfl, rfl, trivial⟩)
          · refine J_mono (w_istore (ls' := [some (.ref y0), some (.int y1), some (.int y2), some (.int y3), some (.int y4), some (.int y5), some (.int x6), some (.int q3)]) C (jd jdt_Mo_feed 34 rfl) (by decide) rfl rfl) ?_
            refine J_mono (w_aload_n C (jd jdt_Mo_feed 35 rfl) rfl) ?_
            refine J_mono (jg_Mo_7 C hy0 (jd jdt_Mo_feed 36 rfl)) ?_
            refine J_mono (w_aload_n C (jd jdt_Mo_feed 37 rfl) rfl) ?_
            refine J_mono (jg_Mo_215 C hy0 (jd jdt_Mo_feed 38 rfl)) ?_
            refine J_mono (w_iload C (jd jdt_Mo_feed 39 rfl) rfl) ?_
            refine J_mono (w_bipush_8 C (jd jdt_Mo_feed 40 rfl)) ?_
            refine J_mono (w_iconst_3 C (jd jdt_Mo_feed 41 rfl)) ?_
            refine J_mono (w_iload C (jd jdt_Mo_feed 42 rfl) rfl) ?_
            refine J_mono (w_iconst_4 C (jd jdt_Mo_feed 43 rfl)) ?_
            refine J_mono (w_irem C (jd jdt_Mo_feed 44 rfl) (by decide)) ?_
            refine J_mono (w_isub C (jd jdt_Mo_feed 45 rfl)) ?_
            refine J_mono (w_imul C (jd jdt_Mo_feed 46 rfl)) ?_
            refine J_mono (w_ishr C (jd jdt_Mo_feed 47 rfl)) ?_
            refine J_mono (w_sipush_255 C (jd jdt_Mo_feed 48 rfl)) ?_
            refine J_mono (w_iand C (jd jdt_Mo_feed 49 rfl)) ?_
            refine J_bind (fun M8 hM8 => ?_)
            refine J_mono (w_iast C F (jkf_12_0 hy0) hM8 (jd jdt_Mo_feed 50 rfl)) ?_
            refine J_mono (w_aload_n C (jd jdt_Mo_feed 51 rfl) rfl) ?_
            refine J_mono (w_dup_r C (jd jdt_Mo_feed 52 rfl)) ?_
            refine J_mono (jg_Mo_215 C hy0 (jd jdt_Mo_feed 53 rfl)) ?_
            refine J_mono (w_iconst_1 C (jd jdt_Mo_feed 54 rfl)) ?_
            refine J_mono (w_iadd C (jd jdt_Mo_feed 55 rfl)) ?_
            refine J_mono (jp_Mo_215 C F hy0 (jd jdt_Mo_feed 56 rfl)) ?_
            refine J_mono (w_iinc (v := x6 + 1) (ls' := [some (.ref y0), some (.int y1), some (.int y2), some (.int y3), some (.int y4), some (.int y5), some (.int (x6 + 1)), some (.int q3)]) C (jd jdt_Mo_feed 57 rfl) rfl rfl (by decide) rfl rfl) ?_
            refine J_mono (w_goto C (jd jdt_Mo_feed 58 rfl) rfl) ?_
            exact J_sub (ih (x6 + 1) (sI M8 y0 1 ((M8.1 y0 1) + 1))) ⟨rfl, rfl, rfl, rfl, rfl, rfl, rfl, trivial⟩
        · exact J_some (fun hx => Wk_sb hx ⟨rfl, trivial⟩)
    refine J_seq (fun (q9 : SM) => Wk p l e R s m args below meth c G 8 Q 0 0 jN0 (jce G q9) 114 [some (.ref a0), none, none, none, none, none, none, none] []) (J_sub (L18 a0 a1 a2 a3 a4 a5 hp0 jfuel 0 M) ⟨rfl, rfl, rfl, rfl, rfl, rfl, rfl, trivial⟩) (fun q9 hq9 => ?_)
    refine J_mono (w_aload_n C (jd jdt_Mo_feed 59 rfl) rfl) ?_
    refine J_mono (jg_Mo_215 C hp0 (jd jdt_Mo_feed 60 rfl)) ?_
    exact J_some (fun hx => hR (q9.1 a0 1) q9 hx _ _ (jd jdt_Mo_feed 61 rfl) rfl)
end
theorem C_Mo_feed (l : Launch) (G : JG) (F : jF G = false) (a0 : Nat) (a1 : Int32) (a2 : Int32) (a3 : Int32) (a4 : Int32) (a5 : Int32) (hp0 : jkd a0 12) (M : SM) {q : (Int32 × SM)} (hf : f_Mo_feed a0 a1 a2 a3 a4 a5 M = some q) : jMet l jy_Mo_feed jb_Mo_feed 8 (some FieldType.int) 1 0 0 G [.ref a0, .int a1, .int a2, .int a3, .int a4, .int a5] jN0 (jce G M) (some (.int q.1)) jN0 (jce G q.2) :=
  j_met jo_Mo_feed (by decide) (Nat.le_of_ble_eq_true rfl) (fun p e s m args below meth c C hr hm => K_Mo_feed C F (Nat.le_refl _) a0 a1 a2 a3 a4 a5 hp0 M (fun t => t = q) (fun v M' hX pc ls hd hn => by cases hX; exact w_iret C hr hn hd) _ hf rfl)
def f_Mo_end (a0 : Nat) (a1 : Int32) (M : SM) : Option (Int32 × SM) := if a1 < 0 then (some (0, M)) else (if (M.1 a0 1) < a1 then (some (0, M)) else (some (1, sI M a0 1 a1)))
section
variable {p : Program} {l : Launch} {e : Env} {R : Room} {s : State} {m : MethodId} {args : Array Value} {below : List Frame} {meth : Method} {c : Code} {G : JG} {D : Nat} {Q : State → Prop}
set_option maxHeartbeats 4000000 in
set_option maxRecDepth 20000 in
theorem K_Mo_end (C : jCx p R s m args meth c G jb_Mo_end 2 D "SluicePitModel") (F : jF G = false) (hD : 1 ≤ D) (a0 : Nat) (a1 : Int32) (hp0 : jkd a0 12) (M : SM) (X : (Int32 × SM) → Prop) (hR : ∀ v M', X (v, M') → ∀ (pc : Nat) (ls : List (Option Value)), decode jb_Mo_end pc = .ok (.ireturn, 1) → narrow FieldType.boolean (.int v) = .int v → Wk p l e R s m args below meth c G 2 Q 0 0 jN0 (jce G M') pc ls [.int v]) : J X (f_Mo_end a0 a1 M) (Wk p l e R s m args below meth c G 2 Q 0 0 jN0 (jce G M) 0 [some (.ref a0), some (.int a1)] []) := by
  unfold f_Mo_end
  refine J_mono (w_iload_n C (jd jdt_Mo_end 0 rfl) rfl) ?_
  refine J_br (w_if_lt (y := 0) C (jd jdt_Mo_end 1 rfl) rfl) (fun h1 => J_pos h1 ?_) (fun h1 => J_neg h1 ?_)
  · refine J_mono (w_iconst_0 C (jd jdt_Mo_end 6 rfl)) ?_
    exact J_some (fun hx => hR 0 M hx _ _ (jd jdt_Mo_end 7 rfl) rfl)
  · refine J_mono (w_iload_n C (jd jdt_Mo_end 2 rfl) rfl) ?_
    refine J_mono (w_aload_n C (jd jdt_Mo_end 3 rfl) rfl) ?_
    refine J_mono (jg_Mo_215 C hp0 (jd jdt_Mo_end 4 rfl)) ?_
    refine J_br (w_icmp_le C (jd jdt_Mo_end 5 rfl) rfl) (fun h2 => J_pos h2 ?_) (fun h2 => J_neg h2 ?_)
    · refine J_mono (w_iconst_0 C (jd jdt_Mo_end 6 rfl)) ?_
      exact J_some (fun hx => hR 0 M hx _ _ (jd jdt_Mo_end 7 rfl) rfl)
    · refine J_mono (w_aload_n C (jd jdt_Mo_end 8 rfl) rfl) ?_
      refine J_mono (w_iload_n C (jd jdt_Mo_end 9 rfl) rfl) ?_
      refine J_mono (jp_Mo_215 C F hp0 (jd jdt_Mo_end 10 rfl)) ?_
      refine J_mono (w_iconst_1 C (jd jdt_Mo_end 11 rfl)) ?_
      exact J_some (fun hx => hR 1 (sI M a0 1 a1) hx _ _ (jd jdt_Mo_end 12 rfl) rfl)
end
theorem C_Mo_end (l : Launch) (G : JG) (F : jF G = false) (a0 : Nat) (a1 : Int32) (hp0 : jkd a0 12) (M : SM) {q : (Int32 × SM)} (hf : f_Mo_end a0 a1 M = some q) : jMet l jy_Mo_end jb_Mo_end 2 (some FieldType.boolean) 1 0 0 G [.ref a0, .int a1] jN0 (jce G M) (some (.int q.1)) jN0 (jce G q.2) :=
  j_met jo_Mo_end (by decide) (Nat.le_of_ble_eq_true rfl) (fun p e s m args below meth c C hr hm => K_Mo_end C F (Nat.le_refl _) a0 a1 hp0 M (fun t => t = q) (fun v M' hX pc ls hd hn => by cases hX; exact w_iret C hr hn hd) _ hf rfl)
def f_Mo_starts (a0 : Nat) (M : SM) : Option SM := some (sI (sI (sI (sI (sI (sI M a0 3 (M.1 a0 1)) a0 1 0) a0 2 0) a0 4 (-1)) a0 5 0) a0 6 (-1))
section
variable {p : Program} {l : Launch} {e : Env} {R : Room} {s : State} {m : MethodId} {args : Array Value} {below : List Frame} {meth : Method} {c : Code} {G : JG} {D : Nat} {Q : State → Prop}
set_option maxHeartbeats 4000000 in
set_option maxRecDepth 20000 in
theorem K_Mo_starts (C : jCx p R s m args meth c G jb_Mo_starts 1 D "SluicePitModel") (F : jF G = false) (hD : 1 ≤ D) (a0 : Nat) (hp0 : jkd a0 12) (M : SM) (X : SM → Prop) (hR : ∀ M', X M' → ∀ (pc : Nat) (ls : List (Option Value)), decode jb_Mo_starts pc = .ok (.return_, 1) → Wk p l e R s m args below meth c G 1 Q 0 0 jN0 (jce G M') pc ls []) : J X (f_Mo_starts a0 M) (Wk p l e R s m args below meth c G 1 Q 0 0 jN0 (jce G M) 0 [some (.ref a0)] []) := by
  unfold f_Mo_starts
  refine J_mono (w_aload_n C (jd jdt_Mo_starts 0 rfl) rfl) ?_
  refine J_mono (w_aload_n C (jd jdt_Mo_starts 1 rfl) rfl) ?_
  refine J_mono (jg_Mo_215 C hp0 (jd jdt_Mo_starts 2 rfl)) ?_
  refine J_mono (jp_Mo_227 C F hp0 (jd jdt_Mo_starts 3 rfl)) ?_
  refine J_mono (w_aload_n C (jd jdt_Mo_starts 4 rfl) rfl) ?_
  refine J_mono (w_iconst_0 C (jd jdt_Mo_starts 5 rfl)) ?_
  refine J_mono (jp_Mo_215 C F hp0 (jd jdt_Mo_starts 6 rfl)) ?_
  refine J_mono (w_aload_n C (jd jdt_Mo_starts 7 rfl) rfl) ?_
  refine J_mono (w_iconst_0 C (jd jdt_Mo_starts 8 rfl)) ?_
  refine J_mono (jp_Mo_224 C F hp0 (jd jdt_Mo_starts 9 rfl)) ?_
  refine J_mono (w_aload_n C (jd jdt_Mo_starts 10 rfl) rfl) ?_
  refine J_mono (w_iconst_m1 C (jd jdt_Mo_starts 11 rfl)) ?_
  refine J_mono (jp_Mo_238 C F hp0 (jd jdt_Mo_starts 12 rfl)) ?_
  refine J_mono (w_aload_n C (jd jdt_Mo_starts 13 rfl) rfl) ?_
  refine J_mono (w_iconst_0 C (jd jdt_Mo_starts 14 rfl)) ?_
  refine J_mono (jp_Mo_218 C F hp0 (jd jdt_Mo_starts 15 rfl)) ?_
  refine J_mono (w_aload_n C (jd jdt_Mo_starts 16 rfl) rfl) ?_
  refine J_mono (w_iconst_m1 C (jd jdt_Mo_starts 17 rfl)) ?_
  refine J_mono (jp_Mo_221 C F hp0 (jd jdt_Mo_starts 18 rfl)) ?_
  exact J_some (fun hx => hR (sI (sI (sI (sI (sI (sI M a0 3 (M.1 a0 1)) a0 1 0) a0 2 0) a0 4 (-1)) a0 5 0) a0 6 (-1)) hx _ _ (jd jdt_Mo_starts 19 rfl))
end
theorem C_Mo_starts (l : Launch) (G : JG) (F : jF G = false) (a0 : Nat) (hp0 : jkd a0 12) (M : SM) {q : SM} (hf : f_Mo_starts a0 M = some q) : jMet l jy_Mo_starts jb_Mo_starts 1 none 1 0 0 G [.ref a0] jN0 (jce G M) none jN0 (jce G q) :=
  j_met jo_Mo_starts (by decide) (Nat.le_of_ble_eq_true rfl) (fun p e s m args below meth c C hr hm => K_Mo_starts C F (Nat.le_refl _) a0 hp0 M (fun t => t = q) (fun M' hX pc ls hd => by cases hX; exact w_vret C hr hd) _ hf rfl)
def lp_Mo_look_0 (y0 : Nat) : Nat → SM → Option (SM)
  | 0, _ => none
  | n + 1, M => if (M.1 y0 2) < (M.1 y0 3) then ((aI M (jpf y0 0) (M.1 y0 2)).bind fun v2 => if v2 = 10 then (lp_Mo_look_0 y0 n (sI M y0 2 ((M.1 y0 2) + 1))) else ((aI M (jpf y0 0) (M.1 y0 2)).bind fun v4 => if v4 = 32 then (lp_Mo_look_0 y0 n (sI M y0 2 ((M.1 y0 2) + 1))) else (some M))) else (some M)
def f_Mo_look (a0 : Nat) (M : SM) : Option (Int32 × SM) := (lp_Mo_look_0 a0 jfuel M).bind fun q6 => if (q6.1 a0 2) < (q6.1 a0 3) then ((aI q6 (jpf a0 0) (q6.1 a0 2)).bind fun v8 => some (v8, q6)) else (some ((-1), q6))
section
variable {p : Program} {l : Launch} {e : Env} {R : Room} {s : State} {m : MethodId} {args : Array Value} {below : List Frame} {meth : Method} {c : Code} {G : JG} {D : Nat} {Q : State → Prop}
set_option maxHeartbeats 4000000 in
set_option maxRecDepth 20000 in
theorem K_Mo_look (C : jCx p R s m args meth c G jb_Mo_look 1 D "SluicePitModel") (F : jF G = false) (hD : 1 ≤ D) (a0 : Nat) (hp0 : jkd a0 12) (M : SM) (X : (Int32 × SM) → Prop) (hR : ∀ v M', X (v, M') → ∀ (pc : Nat) (ls : List (Option Value)), decode jb_Mo_look pc = .ok (.ireturn, 1) → narrow FieldType.int (.int v) = .int v → Wk p l e R s m args below meth c G 1 Q 0 0 jN0 (jce G M') pc ls [.int v]) : J X (f_Mo_look a0 M) (Wk p l e R s m args below meth c G 1 Q 0 0 jN0 (jce G M) 0 [some (.ref a0)] []) := by
  unfold f_Mo_look
  have L0 : ∀ (y0 : Nat) (hy0 : jkd y0 12) (n : Nat)  (M : SM), J (fun (q6 : SM) => Wk p l e R s m args below meth c G 1 Q 0 0 jN0 (jce G q6) 52 [some (.ref y0)] []) (lp_Mo_look_0 y0 n M) (Wk p l e R s m args below meth c G 1 Q 0 0 jN0 (jce G M) 0 [some (.ref y0)] []) := by
    intro y0 hy0 n
    induction n with
    | zero => intro  M; exact J_none
    | succ n ih =>
      intro  M
      unfold lp_Mo_look_0
      refine J_mono (w_aload_n C (jd jdt_Mo_look 0 rfl) rfl) ?_
      refine J_mono (jg_Mo_224 C hy0 (jd jdt_Mo_look 1 rfl)) ?_
      refine J_mono (w_aload_n C (jd jdt_Mo_look 2 rfl) rfl) ?_
      refine J_mono (jg_Mo_227 C hy0 (jd jdt_Mo_look 3 rfl)) ?_
      refine J_br (w_icmp_ge C (jd jdt_Mo_look 4 rfl) rfl) (fun h1 => J_pos h1 ?_) (fun h1 => J_neg h1 ?_)
      · refine J_mono (w_aload_n C (jd jdt_Mo_look 5 rfl) rfl) ?_
        refine J_mono (jg_Mo_7 C hy0 (jd jdt_Mo_look 6 rfl)) ?_
        refine J_mono (w_aload_n C (jd jdt_Mo_look 7 rfl) rfl) ?_
        refine J_mono (jg_Mo_224 C hy0 (jd jdt_Mo_look 8 rfl)) ?_
        refine J_bind (fun v2 hv2 => ?_)
        refine J_mono (w_iald C (jkf_12_0 hy0) hv2 (jd jdt_Mo_look 9 rfl)) ?_
        refine J_mono (w_bipush_10 C (jd jdt_Mo_look 10 rfl)) ?_
        refine J_br (w_icmp_eq C (jd jdt_Mo_look 11 rfl) rfl) (fun h3 => J_pos h3 ?_) (fun h3 => J_neg h3 ?_)
        · refine J_mono (w_aload_n C (jd jdt_Mo_look 19 rfl) rfl) ?_
          refine J_mono (w_dup_r C (jd jdt_Mo_look 20 rfl)) ?_
          refine J_mono (jg_Mo_224 C hy0 (jd jdt_Mo_look 21 rfl)) ?_
          refine J_mono (w_iconst_1 C (jd jdt_Mo_look 22 rfl)) ?_
          refine J_mono (w_iadd C (jd jdt_Mo_look 23 rfl)) ?_
          refine J_mono (jp_Mo_224 C F hy0 (jd jdt_Mo_look 24 rfl)) ?_
          refine J_mono (w_goto C (jd jdt_Mo_look 25 rfl) rfl) ?_
          exact J_sub (ih (sI M y0 2 ((M.1 y0 2) + 1))) ⟨rfl, trivial⟩
        · refine J_mono (w_aload_n C (jd jdt_Mo_look 12 rfl) rfl) ?_
          refine J_mono (jg_Mo_7 C hy0 (jd jdt_Mo_look 13 rfl)) ?_
          refine J_mono (w_aload_n C (jd jdt_Mo_look 14 rfl) rfl) ?_
          refine J_mono (jg_Mo_224 C hy0 (jd jdt_Mo_look 15 rfl)) ?_
          refine J_bind (fun v4 hv4 => ?_)
          refine J_mono (w_iald C (jkf_12_0 hy0) hv4 (jd jdt_Mo_look 16 rfl)) ?_
          refine J_mono (w_bipush_32 C (jd jdt_Mo_look 17 rfl)) ?_
          refine J_br (w_icmp_ne C (jd jdt_Mo_look 18 rfl) rfl) (fun h5 => J_pos h5 ?_) (fun h5 => J_neg h5 ?_)
          · refine J_mono (w_aload_n C (jd jdt_Mo_look 19 rfl) rfl) ?_
            refine J_mono (w_dup_r C (jd jdt_Mo_look 20 rfl)) ?_
            refine J_mono (jg_Mo_224 C hy0 (jd jdt_Mo_look 21 rfl)) ?_
            refine J_mono (w_iconst_1 C (jd jdt_Mo_look 22 rfl)) ?_
            refine J_mono (w_iadd C (jd jdt_Mo_look 23 rfl)) ?_
            refine J_mono (jp_Mo_224 C F hy0 (jd jdt_Mo_look 24 rfl)) ?_
            refine J_mono (w_goto C (jd jdt_Mo_look 25 rfl) rfl) ?_
            exact J_sub (ih (sI M y0 2 ((M.1 y0 2) + 1))) ⟨rfl, trivial⟩
          · exact J_some (fun hx => Wk_sb hx ⟨rfl, trivial⟩)
      · exact J_some (fun hx => Wk_sb hx ⟨rfl, trivial⟩)
  refine J_seq (fun (q6 : SM) => Wk p l e R s m args below meth c G 1 Q 0 0 jN0 (jce G q6) 52 [some (.ref a0)] []) (J_sub (L0 a0 hp0 jfuel M) ⟨rfl, trivial⟩) (fun q6 hq6 => ?_)
  refine J_mono (w_aload_n C (jd jdt_Mo_look 26 rfl) rfl) ?_
  refine J_mono (jg_Mo_224 C hp0 (jd jdt_Mo_look 27 rfl)) ?_
  refine J_mono (w_aload_n C (jd jdt_Mo_look 28 rfl) rfl) ?_
  refine J_mono (jg_Mo_227 C hp0 (jd jdt_Mo_look 29 rfl)) ?_
  refine J_br (w_icmp_ge C (jd jdt_Mo_look 30 rfl) rfl) (fun h7 => J_pos h7 ?_) (fun h7 => J_neg h7 ?_)
  · refine J_mono (w_aload_n C (jd jdt_Mo_look 31 rfl) rfl) ?_
    refine J_mono (jg_Mo_7 C hp0 (jd jdt_Mo_look 32 rfl)) ?_
    refine J_mono (w_aload_n C (jd jdt_Mo_look 33 rfl) rfl) ?_
    refine J_mono (jg_Mo_224 C hp0 (jd jdt_Mo_look 34 rfl)) ?_
    refine J_bind (fun v8 hv8 => ?_)
    refine J_mono (w_iald C (jkf_12_0 hp0) hv8 (jd jdt_Mo_look 35 rfl)) ?_
    refine J_mono (w_goto C (jd jdt_Mo_look 36 rfl) rfl) ?_
    exact J_some (fun hx => hR v8 q6 hx _ _ (jd jdt_Mo_look 38 rfl) rfl)
  · refine J_mono (w_iconst_m1 C (jd jdt_Mo_look 37 rfl)) ?_
    exact J_some (fun hx => hR (-1) q6 hx _ _ (jd jdt_Mo_look 38 rfl) rfl)
end
theorem C_Mo_look (l : Launch) (G : JG) (F : jF G = false) (a0 : Nat) (hp0 : jkd a0 12) (M : SM) {q : (Int32 × SM)} (hf : f_Mo_look a0 M = some q) : jMet l jy_Mo_look jb_Mo_look 1 (some FieldType.int) 1 0 0 G [.ref a0] jN0 (jce G M) (some (.int q.1)) jN0 (jce G q.2) :=
  j_met jo_Mo_look (by decide) (Nat.le_of_ble_eq_true rfl) (fun p e s m args below meth c C hr hm => K_Mo_look C F (Nat.le_refl _) a0 hp0 M (fun t => t = q) (fun v M' hX pc ls hd hn => by cases hX; exact w_iret C hr hn hd) _ hf rfl)
def f_Mo_isLetter (a0 : Int32) : Option Int32 := if a0 < 97 then (some 0) else (if 122 < a0 then (some 0) else (some 1))
section
variable {p : Program} {l : Launch} {e : Env} {R : Room} {s : State} {m : MethodId} {args : Array Value} {below : List Frame} {meth : Method} {c : Code} {G : JG} {D : Nat} {Q : State → Prop}
set_option maxHeartbeats 4000000 in
set_option maxRecDepth 20000 in
theorem K_Mo_isLetter (C : jCx p R s m args meth c G jb_Mo_isLetter 1 D "SluicePitModel") (F : jF G = false) (hD : 1 ≤ D) (a0 : Int32)  (M : SM) (X : Int32 → Prop) (hR : ∀ v, X v → ∀ (pc : Nat) (ls : List (Option Value)), decode jb_Mo_isLetter pc = .ok (.ireturn, 1) → narrow FieldType.boolean (.int v) = .int v → Wk p l e R s m args below meth c G 1 Q 0 0 jN0 (jce G M) pc ls [.int v]) : J X (f_Mo_isLetter a0) (Wk p l e R s m args below meth c G 1 Q 0 0 jN0 (jce G M) 0 [some (.int a0)] []) := by
  unfold f_Mo_isLetter
  refine J_mono (w_iload_n C (jd jdt_Mo_isLetter 0 rfl) rfl) ?_
  refine J_mono (w_bipush_97 C (jd jdt_Mo_isLetter 1 rfl)) ?_
  refine J_br (w_icmp_lt C (jd jdt_Mo_isLetter 2 rfl) rfl) (fun h1 => J_pos h1 ?_) (fun h1 => J_neg h1 ?_)
  · refine J_mono (w_iconst_0 C (jd jdt_Mo_isLetter 8 rfl)) ?_
    exact J_some (fun hx => hR 0 hx _ _ (jd jdt_Mo_isLetter 9 rfl) rfl)
  · refine J_mono (w_iload_n C (jd jdt_Mo_isLetter 3 rfl) rfl) ?_
    refine J_mono (w_bipush_122 C (jd jdt_Mo_isLetter 4 rfl)) ?_
    refine J_br (w_icmp_gt C (jd jdt_Mo_isLetter 5 rfl) rfl) (fun h2 => J_pos h2 ?_) (fun h2 => J_neg h2 ?_)
    · refine J_mono (w_iconst_0 C (jd jdt_Mo_isLetter 8 rfl)) ?_
      exact J_some (fun hx => hR 0 hx _ _ (jd jdt_Mo_isLetter 9 rfl) rfl)
    · refine J_mono (w_iconst_1 C (jd jdt_Mo_isLetter 6 rfl)) ?_
      refine J_mono (w_goto C (jd jdt_Mo_isLetter 7 rfl) rfl) ?_
      exact J_some (fun hx => hR 1 hx _ _ (jd jdt_Mo_isLetter 9 rfl) rfl)
end
theorem C_Mo_isLetter (l : Launch) (G : JG) (F : jF G = false) (a0 : Int32)  (M : SM) {q : Int32} (hf : f_Mo_isLetter a0 = some q) : jMet l jy_Mo_isLetter jb_Mo_isLetter 1 (some FieldType.boolean) 1 0 0 G [.int a0] jN0 (jce G M) (some (.int q)) jN0 (jce G M) :=
  j_met jo_Mo_isLetter (by decide) (Nat.le_of_ble_eq_true rfl) (fun p e s m args below meth c C hr hm => K_Mo_isLetter C F (Nat.le_refl _) a0  M (fun t => t = q) (fun v hX pc ls hd hn => by cases hX; exact w_iret C hr hn hd) _ hf rfl)
def lp_Mo_isHere_35 (y0 : Nat) (M : SM) : Nat → Int32 → Option (Int32)
  | 0, _ => none
  | n + 1, x2 => if x2 < (M.1 y0 3) then ((aI M (jpf y0 0) x2).bind fun v7 => (f_Mo_isLetter v7).bind fun q8 => if q8 = 0 then (some x2) else (lp_Mo_isHere_35 y0 M n (x2 + 1))) else (some x2)
def lp_Mo_isHere_76 (y0 : Nat) (y1 : Nat) (M : SM) : Nat → Int32 → Option ((Unit) ⊕ (Int32 × SM))
  | 0, _ => none
  | n + 1, x3 => if x3 < (nI (jln y1)) then ((aI M (jpf y0 0) ((M.1 y0 2) + x3)).bind fun v13 => (aI M y1 x3).bind fun v14 => if v13 = v14 then (lp_Mo_isHere_76 y0 y1 M n (x3 + 1)) else (some (.inr (0, M)))) else (some (.inl ()))
def f_Mo_isHere (a0 : Nat) (a1 : Nat) (M : SM) : Option (Int32 × SM) := if (M.1 a0 5) = 0 then ((f_Mo_look a0 M).bind fun q2 => (f_Mo_isLetter q2.1).bind fun q3 => if q3 = 0 then (some (0, q2.2)) else (if (q2.2.1 a0 2) = (q2.2.1 a0 4) then (some (0, q2.2)) else ((lp_Mo_isHere_35 a0 q2.2 jfuel (q2.2.1 a0 2)).bind fun q10 => if (q10 - (q2.2.1 a0 2)) = (nI (jln a1)) then (jsb (lp_Mo_isHere_76 a0 a1 q2.2 jfuel 0) id fun q16 => some (1, q2.2)) else (some (0, q2.2))))) else (some (0, M))
section
variable {p : Program} {l : Launch} {e : Env} {R : Room} {s : State} {m : MethodId} {args : Array Value} {below : List Frame} {meth : Method} {c : Code} {G : JG} {D : Nat} {Q : State → Prop}
set_option maxHeartbeats 4000000 in
set_option maxRecDepth 20000 in
theorem K_Mo_isHere (C : jCx p R s m args meth c G jb_Mo_isHere 4 D "SluicePitModel") (F : jF G = false) (hD : 2 ≤ D) (a0 : Nat) (a1 : Nat) (hp0 : jkd a0 12) (hp1 : jkd a1 102) (M : SM) (X : (Int32 × SM) → Prop) (hR : ∀ v M', X (v, M') → ∀ (pc : Nat) (ls : List (Option Value)), decode jb_Mo_isHere pc = .ok (.ireturn, 1) → narrow FieldType.boolean (.int v) = .int v → Wk p l e R s m args below meth c G 4 Q 0 0 jN0 (jce G M') pc ls [.int v]) : J X (f_Mo_isHere a0 a1 M) (Wk p l e R s m args below meth c G 4 Q 0 0 jN0 (jce G M) 0 [some (.ref a0), some (.ref a1), none, none] []) := by
  unfold f_Mo_isHere
  refine J_mono (w_aload_n C (jd jdt_Mo_isHere 0 rfl) rfl) ?_
  refine J_mono (jg_Mo_218 C hp0 (jd jdt_Mo_isHere 1 rfl)) ?_
  refine J_br (w_if_ne (y := 0) C (jd jdt_Mo_isHere 2 rfl) rfl) (fun h1 => J_pos h1 ?_) (fun h1 => J_neg h1 ?_)
  · refine J_mono (w_aload_n C (jd jdt_Mo_isHere 3 rfl) rfl) ?_
    refine J_bind (fun q2 hq2 => ?_)
    refine J_mono (jc_Mo_230 C hp0 (C_Mo_look l G F a0 hp0 M hq2) rfl (Nat.le_trans (Nat.le_of_ble_eq_true rfl : 1 + 1 ≤ 2) hD) (jd jdt_Mo_isHere 4 rfl)) ?_
    refine J_bind (fun q3 hq3 => ?_)
    refine J_mono (jc_Mo_234 C (C_Mo_isLetter l G F q2.1 q2.2 hq3) rfl (Nat.le_trans (Nat.le_of_ble_eq_true rfl : 1 + 1 ≤ 2) hD) (jd jdt_Mo_isHere 5 rfl)) ?_
    refine J_br (w_if_eq (y := 0) C (jd jdt_Mo_isHere 6 rfl) rfl) (fun h4 => J_pos h4 ?_) (fun h4 => J_neg h4 ?_)
    · refine J_mono (w_iconst_0 C (jd jdt_Mo_isHere 12 rfl)) ?_
      exact J_some (fun hx => hR 0 q2.2 hx _ _ (jd jdt_Mo_isHere 13 rfl) rfl)
    · refine J_mono (w_aload_n C (jd jdt_Mo_isHere 7 rfl) rfl) ?_
      refine J_mono (jg_Mo_224 C hp0 (jd jdt_Mo_isHere 8 rfl)) ?_
      refine J_mono (w_aload_n C (jd jdt_Mo_isHere 9 rfl) rfl) ?_
      refine J_mono (jg_Mo_238 C hp0 (jd jdt_Mo_isHere 10 rfl)) ?_
      refine J_br (w_icmp_ne C (jd jdt_Mo_isHere 11 rfl) rfl) (fun h5 => J_pos h5 ?_) (fun h5 => J_neg h5 ?_)
      · refine J_mono (w_iconst_0 C (jd jdt_Mo_isHere 12 rfl)) ?_
        exact J_some (fun hx => hR 0 q2.2 hx _ _ (jd jdt_Mo_isHere 13 rfl) rfl)
      · refine J_mono (w_aload_n C (jd jdt_Mo_isHere 14 rfl) rfl) ?_
        refine J_mono (jg_Mo_224 C hp0 (jd jdt_Mo_isHere 15 rfl)) ?_
        refine J_mono (w_istore_n (ls' := [some (.ref a0), some (.ref a1), some (.int (q2.2.1 a0 2)), none]) C (jd jdt_Mo_isHere 16 rfl) (by decide) rfl rfl) ?_
        have L35 : ∀ (y0 : Nat) (y1 : Nat) (hy0 : jkd y0 12) (hy1 : jkd y1 102) (M : SM) (n : Nat) (x2 : Int32), J (fun (q10 : Int32) => Wk p l e R s m args below meth c G 4 Q 0 0 jN0 (jce G M) 61 [some (.ref y0), some (.ref y1), some (.int q10), none] []) (lp_Mo_isHere_35 y0 M n x2) (Wk p l e R s m args below meth c G 4 Q 0 0 jN0 (jce G M) 35 [some (.ref y0), some (.ref y1), some (.int x2), none] []) := by
          intro y0 y1 hy0 hy1 M n
          induction n with
          | zero => intro x2; exact J_none
          | succ n ih =>
            intro x2
            unfold lp_Mo_isHere_35
            refine J_mono (w_iload_n C (jd jdt_Mo_isHere 17 rfl) rfl) ?_
            refine J_mono (w_aload_n C (jd jdt_Mo_isHere 18 rfl) rfl) ?_
            refine J_mono (jg_Mo_227 C hy0 (jd jdt_Mo_isHere 19 rfl)) ?_
            refine J_br (w_icmp_ge C (jd jdt_Mo_isHere 20 rfl) rfl) (fun h6 => J_pos h6 ?_) (fun h6 => J_neg h6 ?_)
            · refine J_mono (w_aload_n C (jd jdt_Mo_isHere 21 rfl) rfl) ?_
              refine J_mono (jg_Mo_7 C hy0 (jd jdt_Mo_isHere 22 rfl)) ?_
              refine J_mono (w_iload_n C (jd jdt_Mo_isHere 23 rfl) rfl) ?_
              refine J_bind (fun v7 hv7 => ?_)
              refine J_mono (w_iald C (jkf_12_0 hy0) hv7 (jd jdt_Mo_isHere 24 rfl)) ?_
              refine J_bind (fun q8 hq8 => ?_)
              refine J_mono (jc_Mo_234 C (C_Mo_isLetter l G F v7 M hq8) rfl (Nat.le_trans (Nat.le_of_ble_eq_true rfl : 1 + 1 ≤ 2) hD) (jd jdt_Mo_isHere 25 rfl)) ?_
              refine J_br (w_if_eq (y := 0) C (jd jdt_Mo_isHere 26 rfl) rfl) (fun h9 => J_pos h9 ?_) (fun h9 => J_neg h9 ?_)
              · exact J_some (fun hx => Wk_sb hx ⟨rfl, rfl, rfl, trivial⟩)
              · refine J_mono (w_iinc (v := x2 + 1) (ls' := [some (.ref y0), some (.ref y1), some (.int (x2 + 1)), none]) C (jd jdt_Mo_isHere 27 rfl) rfl rfl (by decide) rfl rfl) ?_
                refine J_mono (w_goto C (jd jdt_Mo_isHere 28 rfl) rfl) ?_
                exact J_sub (ih (x2 + 1)) ⟨rfl, rfl, rfl, trivial⟩
            · exact J_some (fun hx => Wk_sb hx ⟨rfl, rfl, rfl, trivial⟩)
        refine J_seq (fun (q10 : Int32) => Wk p l e R s m args below meth c G 4 Q 0 0 jN0 (jce G q2.2) 61 [some (.ref a0), some (.ref a1), some (.int q10), none] []) (J_sub (L35 a0 a1 hp0 hp1 q2.2 jfuel (q2.2.1 a0 2)) ⟨rfl, rfl, rfl, trivial⟩) (fun q10 hq10 => ?_)
        refine J_mono (w_iload_n C (jd jdt_Mo_isHere 29 rfl) rfl) ?_
        refine J_mono (w_aload_n C (jd jdt_Mo_isHere 30 rfl) rfl) ?_
        refine J_mono (jg_Mo_224 C hp0 (jd jdt_Mo_isHere 31 rfl)) ?_
        refine J_mono (w_isub C (jd jdt_Mo_isHere 32 rfl)) ?_
        refine J_mono (w_aload_n C (jd jdt_Mo_isHere 33 rfl) rfl) ?_
        refine J_mono (w_alen C (.inr (.inr (.inl hp1))) (jd jdt_Mo_isHere 34 rfl)) ?_
        refine J_br (w_icmp_eq C (jd jdt_Mo_isHere 35 rfl) rfl) (fun h11 => J_pos h11 ?_) (fun h11 => J_neg h11 ?_)
        · refine J_mono (w_iconst_0 C (jd jdt_Mo_isHere 38 rfl)) ?_
          refine J_mono (w_istore_n (ls' := [some (.ref a0), some (.ref a1), some (.int q10), some (.int 0)]) C (jd jdt_Mo_isHere 39 rfl) (by decide) rfl rfl) ?_
          have L76 : ∀ (y0 : Nat) (y1 : Nat) (hy0 : jkd y0 12) (hy1 : jkd y1 102) (M : SM) (n : Nat) (x3 : Int32), J (Sum.elim (fun (q16 : Unit) => Wk p l e R s m args below meth c G 4 Q 0 0 jN0 (jce G M) 107 [none, none, none, none] []) X) (lp_Mo_isHere_76 y0 y1 M n x3) (Wk p l e R s m args below meth c G 4 Q 0 0 jN0 (jce G M) 76 [some (.ref y0), some (.ref y1), none, some (.int x3)] []) := by
            intro y0 y1 hy0 hy1 M n
            induction n with
            | zero => intro x3; exact J_none
            | succ n ih =>
              intro x3
              unfold lp_Mo_isHere_76
              refine J_mono (w_iload_n C (jd jdt_Mo_isHere 40 rfl) rfl) ?_
              refine J_mono (w_aload_n C (jd jdt_Mo_isHere 41 rfl) rfl) ?_
              refine J_mono (w_alen C (.inr (.inr (.inl hy1))) (jd jdt_Mo_isHere 42 rfl)) ?_
              refine J_br (w_icmp_ge C (jd jdt_Mo_isHere 43 rfl) rfl) (fun h12 => J_pos h12 ?_) (fun h12 => J_neg h12 ?_)
              · refine J_mono (w_aload_n C (jd jdt_Mo_isHere 44 rfl) rfl) ?_
                refine J_mono (jg_Mo_7 C hy0 (jd jdt_Mo_isHere 45 rfl)) ?_
                refine J_mono (w_aload_n C (jd jdt_Mo_isHere 46 rfl) rfl) ?_
                refine J_mono (jg_Mo_224 C hy0 (jd jdt_Mo_isHere 47 rfl)) ?_
                refine J_mono (w_iload_n C (jd jdt_Mo_isHere 48 rfl) rfl) ?_
                refine J_mono (w_iadd C (jd jdt_Mo_isHere 49 rfl)) ?_
                refine J_bind (fun v13 hv13 => ?_)
                refine J_mono (w_iald C (jkf_12_0 hy0) hv13 (jd jdt_Mo_isHere 50 rfl)) ?_
                refine J_mono (w_aload_n C (jd jdt_Mo_isHere 51 rfl) rfl) ?_
                refine J_mono (w_iload_n C (jd jdt_Mo_isHere 52 rfl) rfl) ?_
                refine J_bind (fun v14 hv14 => ?_)
                refine J_mono (w_cald C hy1 hv14 (jd jdt_Mo_isHere 53 rfl)) ?_
                refine J_br (w_icmp_eq C (jd jdt_Mo_isHere 54 rfl) rfl) (fun h15 => J_pos h15 ?_) (fun h15 => J_neg h15 ?_)
                · refine J_mono (w_iinc (v := x3 + 1) (ls' := [some (.ref y0), some (.ref y1), none, some (.int (x3 + 1))]) C (jd jdt_Mo_isHere 57 rfl) rfl rfl (by decide) rfl rfl) ?_
                  refine J_mono (w_goto C (jd jdt_Mo_isHere 58 rfl) rfl) ?_
                  exact J_sub (ih (x3 + 1)) ⟨rfl, rfl, rfl, trivial⟩
                · refine J_mono (w_iconst_0 C (jd jdt_Mo_isHere 55 rfl)) ?_
                  exact J_some (fun hx => hR 0 M hx _ _ (jd jdt_Mo_isHere 56 rfl) rfl)
              · exact J_some (fun hx => Wk_sb hx trivial)
          refine J_sb (fun (q16 : Unit) => Wk p l e R s m args below meth c G 4 Q 0 0 jN0 (jce G q2.2) 107 [none, none, none, none] []) (J_sub (L76 a0 a1 hp0 hp1 q2.2 jfuel 0) ⟨rfl, rfl, rfl, trivial⟩) (fun q16 => ?_)
          refine J_mono (w_iconst_1 C (jd jdt_Mo_isHere 59 rfl)) ?_
          exact J_some (fun hx => hR 1 q2.2 hx _ _ (jd jdt_Mo_isHere 60 rfl) rfl)
        · refine J_mono (w_iconst_0 C (jd jdt_Mo_isHere 36 rfl)) ?_
          exact J_some (fun hx => hR 0 q2.2 hx _ _ (jd jdt_Mo_isHere 37 rfl) rfl)
  · refine J_mono (w_iconst_0 C (jd jdt_Mo_isHere 12 rfl)) ?_
    exact J_some (fun hx => hR 0 M hx _ _ (jd jdt_Mo_isHere 13 rfl) rfl)
end
theorem C_Mo_isHere (l : Launch) (G : JG) (F : jF G = false) (a0 : Nat) (a1 : Nat) (hp0 : jkd a0 12) (hp1 : jkd a1 102) (M : SM) {q : (Int32 × SM)} (hf : f_Mo_isHere a0 a1 M = some q) : jMet l jy_Mo_isHere jb_Mo_isHere 4 (some FieldType.boolean) 2 0 0 G [.ref a0, .ref a1] jN0 (jce G M) (some (.int q.1)) jN0 (jce G q.2) :=
  j_met jo_Mo_isHere (by decide) (Nat.le_of_ble_eq_true rfl) (fun p e s m args below meth c C hr hm => K_Mo_isHere C F (Nat.le_refl _) a0 a1 hp0 hp1 M (fun t => t = q) (fun v M' hX pc ls hd hn => by cases hX; exact w_iret C hr hn hd) _ hf rfl)
def f_Mo_takes (a0 : Nat) (a1 : Nat) (M : SM) : Option (Int32 × SM) := (f_Mo_isHere a0 a1 M).bind fun q1 => if q1.1 = 0 then (some (0, q1.2)) else (some (1, sI (sI q1.2 a0 2 ((q1.2.1 a0 2) + (nI (jln a1)))) a0 4 ((sI q1.2 a0 2 ((q1.2.1 a0 2) + (nI (jln a1)))).1 a0 2)))
section
variable {p : Program} {l : Launch} {e : Env} {R : Room} {s : State} {m : MethodId} {args : Array Value} {below : List Frame} {meth : Method} {c : Code} {G : JG} {D : Nat} {Q : State → Prop}
set_option maxHeartbeats 4000000 in
set_option maxRecDepth 20000 in
theorem K_Mo_takes (C : jCx p R s m args meth c G jb_Mo_takes 2 D "SluicePitModel") (F : jF G = false) (hD : 3 ≤ D) (a0 : Nat) (a1 : Nat) (hp0 : jkd a0 12) (hp1 : jkd a1 102) (M : SM) (X : (Int32 × SM) → Prop) (hR : ∀ v M', X (v, M') → ∀ (pc : Nat) (ls : List (Option Value)), decode jb_Mo_takes pc = .ok (.ireturn, 1) → narrow FieldType.boolean (.int v) = .int v → Wk p l e R s m args below meth c G 2 Q 0 0 jN0 (jce G M') pc ls [.int v]) : J X (f_Mo_takes a0 a1 M) (Wk p l e R s m args below meth c G 2 Q 0 0 jN0 (jce G M) 0 [some (.ref a0), some (.ref a1)] []) := by
  unfold f_Mo_takes
  refine J_mono (w_aload_n C (jd jdt_Mo_takes 0 rfl) rfl) ?_
  refine J_mono (w_aload_n C (jd jdt_Mo_takes 1 rfl) rfl) ?_
  refine J_bind (fun q1 hq1 => ?_)
  refine J_mono (jc_Mo_241 C hp0 (C_Mo_isHere l G F a0 a1 hp0 hp1 M hq1) rfl (Nat.le_trans (Nat.le_of_ble_eq_true rfl : 2 + 1 ≤ 3) hD) (jd jdt_Mo_takes 2 rfl)) ?_
  refine J_br (w_if_ne (y := 0) C (jd jdt_Mo_takes 3 rfl) rfl) (fun h2 => J_pos h2 ?_) (fun h2 => J_neg h2 ?_)
  · refine J_mono (w_iconst_0 C (jd jdt_Mo_takes 4 rfl)) ?_
    exact J_some (fun hx => hR 0 q1.2 hx _ _ (jd jdt_Mo_takes 5 rfl) rfl)
  · refine J_mono (w_aload_n C (jd jdt_Mo_takes 6 rfl) rfl) ?_
    refine J_mono (w_dup_r C (jd jdt_Mo_takes 7 rfl)) ?_
    refine J_mono (jg_Mo_224 C hp0 (jd jdt_Mo_takes 8 rfl)) ?_
    refine J_mono (w_aload_n C (jd jdt_Mo_takes 9 rfl) rfl) ?_
    refine J_mono (w_alen C (.inr (.inr (.inl hp1))) (jd jdt_Mo_takes 10 rfl)) ?_
    refine J_mono (w_iadd C (jd jdt_Mo_takes 11 rfl)) ?_
    refine J_mono (jp_Mo_224 C F hp0 (jd jdt_Mo_takes 12 rfl)) ?_
    refine J_mono (w_aload_n C (jd jdt_Mo_takes 13 rfl) rfl) ?_
    refine J_mono (w_aload_n C (jd jdt_Mo_takes 14 rfl) rfl) ?_
    refine J_mono (jg_Mo_224 C hp0 (jd jdt_Mo_takes 15 rfl)) ?_
    refine J_mono (jp_Mo_238 C F hp0 (jd jdt_Mo_takes 16 rfl)) ?_
    refine J_mono (w_iconst_1 C (jd jdt_Mo_takes 17 rfl)) ?_
    exact J_some (fun hx => hR 1 (sI (sI q1.2 a0 2 ((q1.2.1 a0 2) + (nI (jln a1)))) a0 4 ((sI q1.2 a0 2 ((q1.2.1 a0 2) + (nI (jln a1)))).1 a0 2)) hx _ _ (jd jdt_Mo_takes 18 rfl) rfl)
end
theorem C_Mo_takes (l : Launch) (G : JG) (F : jF G = false) (a0 : Nat) (a1 : Nat) (hp0 : jkd a0 12) (hp1 : jkd a1 102) (M : SM) {q : (Int32 × SM)} (hf : f_Mo_takes a0 a1 M = some q) : jMet l jy_Mo_takes jb_Mo_takes 2 (some FieldType.boolean) 3 0 0 G [.ref a0, .ref a1] jN0 (jce G M) (some (.int q.1)) jN0 (jce G q.2) :=
  j_met jo_Mo_takes (by decide) (Nat.le_of_ble_eq_true rfl) (fun p e s m args below meth c C hr hm => K_Mo_takes C F (Nat.le_refl _) a0 a1 hp0 hp1 M (fun t => t = q) (fun v M' hX pc ls hd hn => by cases hX; exact w_iret C hr hn hd) _ hf rfl)
def f_Mo_fail (a0 : Nat) (a1 : Int32) (a2 : Int32) (M : SM) : Option SM := if (M.1 a0 5) = 0 then (some (sI (sI M a0 5 a1) a0 6 a2)) else (some M)
section
variable {p : Program} {l : Launch} {e : Env} {R : Room} {s : State} {m : MethodId} {args : Array Value} {below : List Frame} {meth : Method} {c : Code} {G : JG} {D : Nat} {Q : State → Prop}
set_option maxHeartbeats 4000000 in
set_option maxRecDepth 20000 in
theorem K_Mo_fail (C : jCx p R s m args meth c G jb_Mo_fail 3 D "SluicePitModel") (F : jF G = false) (hD : 1 ≤ D) (a0 : Nat) (a1 : Int32) (a2 : Int32) (hp0 : jkd a0 12) (M : SM) (X : SM → Prop) (hR : ∀ M', X M' → ∀ (pc : Nat) (ls : List (Option Value)), decode jb_Mo_fail pc = .ok (.return_, 1) → Wk p l e R s m args below meth c G 3 Q 0 0 jN0 (jce G M') pc ls []) : J X (f_Mo_fail a0 a1 a2 M) (Wk p l e R s m args below meth c G 3 Q 0 0 jN0 (jce G M) 0 [some (.ref a0), some (.int a1), some (.int a2)] []) := by
  unfold f_Mo_fail
  refine J_mono (w_aload_n C (jd jdt_Mo_fail 0 rfl) rfl) ?_
  refine J_mono (jg_Mo_218 C hp0 (jd jdt_Mo_fail 1 rfl)) ?_
  refine J_br (w_if_eq (y := 0) C (jd jdt_Mo_fail 2 rfl) rfl) (fun h1 => J_pos h1 ?_) (fun h1 => J_neg h1 ?_)
  · refine J_mono (w_aload_n C (jd jdt_Mo_fail 4 rfl) rfl) ?_
    refine J_mono (w_iload_n C (jd jdt_Mo_fail 5 rfl) rfl) ?_
    refine J_mono (jp_Mo_218 C F hp0 (jd jdt_Mo_fail 6 rfl)) ?_
    refine J_mono (w_aload_n C (jd jdt_Mo_fail 7 rfl) rfl) ?_
    refine J_mono (w_iload_n C (jd jdt_Mo_fail 8 rfl) rfl) ?_
    refine J_mono (jp_Mo_221 C F hp0 (jd jdt_Mo_fail 9 rfl)) ?_
    exact J_some (fun hx => hR (sI (sI M a0 5 a1) a0 6 a2) hx _ _ (jd jdt_Mo_fail 10 rfl))
  · exact J_some (fun hx => hR M hx _ _ (jd jdt_Mo_fail 3 rfl))
end
theorem C_Mo_fail (l : Launch) (G : JG) (F : jF G = false) (a0 : Nat) (a1 : Int32) (a2 : Int32) (hp0 : jkd a0 12) (M : SM) {q : SM} (hf : f_Mo_fail a0 a1 a2 M = some q) : jMet l jy_Mo_fail jb_Mo_fail 3 none 1 0 0 G [.ref a0, .int a1, .int a2] jN0 (jce G M) none jN0 (jce G q) :=
  j_met jo_Mo_fail (by decide) (Nat.le_of_ble_eq_true rfl) (fun p e s m args below meth c C hr hm => K_Mo_fail C F (Nat.le_refl _) a0 a1 a2 hp0 M (fun t => t = q) (fun M' hX pc ls hd => by cases hX; exact w_vret C hr hd) _ hf rfl)
def f_Mo_asks (a0 : Nat) (a1 : Nat) (M : SM) : Option SM := if (M.1 a0 5) = 0 then ((f_Mo_takes a0 a1 M).bind fun q2 => if q2.1 = 0 then ((f_Mo_fail a0 1 (q2.2.1 a0 2) q2.2).bind fun q4 => some q4) else (some q2.2)) else (some M)
section
variable {p : Program} {l : Launch} {e : Env} {R : Room} {s : State} {m : MethodId} {args : Array Value} {below : List Frame} {meth : Method} {c : Code} {G : JG} {D : Nat} {Q : State → Prop}
set_option maxHeartbeats 4000000 in
set_option maxRecDepth 20000 in
theorem K_Mo_asks (C : jCx p R s m args meth c G jb_Mo_asks 2 D "SluicePitModel") (F : jF G = false) (hD : 4 ≤ D) (a0 : Nat) (a1 : Nat) (hp0 : jkd a0 12) (hp1 : jkd a1 102) (M : SM) (X : SM → Prop) (hR : ∀ M', X M' → ∀ (pc : Nat) (ls : List (Option Value)), decode jb_Mo_asks pc = .ok (.return_, 1) → Wk p l e R s m args below meth c G 2 Q 0 0 jN0 (jce G M') pc ls []) : J X (f_Mo_asks a0 a1 M) (Wk p l e R s m args below meth c G 2 Q 0 0 jN0 (jce G M) 0 [some (.ref a0), some (.ref a1)] []) := by
  unfold f_Mo_asks
  refine J_mono (w_aload_n C (jd jdt_Mo_asks 0 rfl) rfl) ?_
  refine J_mono (jg_Mo_218 C hp0 (jd jdt_Mo_asks 1 rfl)) ?_
  refine J_br (w_if_ne (y := 0) C (jd jdt_Mo_asks 2 rfl) rfl) (fun h1 => J_pos h1 ?_) (fun h1 => J_neg h1 ?_)
  · refine J_mono (w_aload_n C (jd jdt_Mo_asks 3 rfl) rfl) ?_
    refine J_mono (w_aload_n C (jd jdt_Mo_asks 4 rfl) rfl) ?_
    refine J_bind (fun q2 hq2 => ?_)
    refine J_mono (jc_Mo_245 C hp0 (C_Mo_takes l G F a0 a1 hp0 hp1 M hq2) rfl (Nat.le_trans (Nat.le_of_ble_eq_true rfl : 3 + 1 ≤ 4) hD) (jd jdt_Mo_asks 5 rfl)) ?_
    refine J_br (w_if_ne (y := 0) C (jd jdt_Mo_asks 6 rfl) rfl) (fun h3 => J_pos h3 ?_) (fun h3 => J_neg h3 ?_)
    · refine J_mono (w_aload_n C (jd jdt_Mo_asks 7 rfl) rfl) ?_
      refine J_mono (w_iconst_1 C (jd jdt_Mo_asks 8 rfl)) ?_
      refine J_mono (w_aload_n C (jd jdt_Mo_asks 9 rfl) rfl) ?_
      refine J_mono (jg_Mo_224 C hp0 (jd jdt_Mo_asks 10 rfl)) ?_
      refine J_bind (fun q4 hq4 => ?_)
      refine J_mono (jc_Mo_248 C hp0 (C_Mo_fail l G F a0 1 (q2.2.1 a0 2) hp0 q2.2 hq4) rfl (Nat.le_trans (Nat.le_of_ble_eq_true rfl : 1 + 1 ≤ 4) hD) (jd jdt_Mo_asks 11 rfl)) ?_
      exact J_some (fun hx => hR q4 hx _ _ (jd jdt_Mo_asks 12 rfl))
    · exact J_some (fun hx => hR q2.2 hx _ _ (jd jdt_Mo_asks 12 rfl))
  · exact J_some (fun hx => hR M hx _ _ (jd jdt_Mo_asks 12 rfl))
end
theorem C_Mo_asks (l : Launch) (G : JG) (F : jF G = false) (a0 : Nat) (a1 : Nat) (hp0 : jkd a0 12) (hp1 : jkd a1 102) (M : SM) {q : SM} (hf : f_Mo_asks a0 a1 M = some q) : jMet l jy_Mo_asks jb_Mo_asks 2 none 4 0 0 G [.ref a0, .ref a1] jN0 (jce G M) none jN0 (jce G q) :=
  j_met jo_Mo_asks (by decide) (Nat.le_of_ble_eq_true rfl) (fun p e s m args below meth c C hr hm => K_Mo_asks C F (Nat.le_refl _) a0 a1 hp0 hp1 M (fun t => t = q) (fun M' hX pc ls hd => by cases hX; exact w_vret C hr hd) _ hf rfl)
def f_Mo_isDigit (a0 : Int32) : Option Int32 := if a0 < 48 then (some 0) else (if 57 < a0 then (some 0) else (some 1))
section
variable {p : Program} {l : Launch} {e : Env} {R : Room} {s : State} {m : MethodId} {args : Array Value} {below : List Frame} {meth : Method} {c : Code} {G : JG} {D : Nat} {Q : State → Prop}
set_option maxHeartbeats 4000000 in
set_option maxRecDepth 20000 in
theorem K_Mo_isDigit (C : jCx p R s m args meth c G jb_Mo_isDigit 1 D "SluicePitModel") (F : jF G = false) (hD : 1 ≤ D) (a0 : Int32)  (M : SM) (X : Int32 → Prop) (hR : ∀ v, X v → ∀ (pc : Nat) (ls : List (Option Value)), decode jb_Mo_isDigit pc = .ok (.ireturn, 1) → narrow FieldType.boolean (.int v) = .int v → Wk p l e R s m args below meth c G 1 Q 0 0 jN0 (jce G M) pc ls [.int v]) : J X (f_Mo_isDigit a0) (Wk p l e R s m args below meth c G 1 Q 0 0 jN0 (jce G M) 0 [some (.int a0)] []) := by
  unfold f_Mo_isDigit
  refine J_mono (w_iload_n C (jd jdt_Mo_isDigit 0 rfl) rfl) ?_
  refine J_mono (w_bipush_48 C (jd jdt_Mo_isDigit 1 rfl)) ?_
  refine J_br (w_icmp_lt C (jd jdt_Mo_isDigit 2 rfl) rfl) (fun h1 => J_pos h1 ?_) (fun h1 => J_neg h1 ?_)
  · refine J_mono (w_iconst_0 C (jd jdt_Mo_isDigit 8 rfl)) ?_
    exact J_some (fun hx => hR 0 hx _ _ (jd jdt_Mo_isDigit 9 rfl) rfl)
  · refine J_mono (w_iload_n C (jd jdt_Mo_isDigit 3 rfl) rfl) ?_
    refine J_mono (w_bipush_57 C (jd jdt_Mo_isDigit 4 rfl)) ?_
    refine J_br (w_icmp_gt C (jd jdt_Mo_isDigit 5 rfl) rfl) (fun h2 => J_pos h2 ?_) (fun h2 => J_neg h2 ?_)
    · refine J_mono (w_iconst_0 C (jd jdt_Mo_isDigit 8 rfl)) ?_
      exact J_some (fun hx => hR 0 hx _ _ (jd jdt_Mo_isDigit 9 rfl) rfl)
    · refine J_mono (w_iconst_1 C (jd jdt_Mo_isDigit 6 rfl)) ?_
      refine J_mono (w_goto C (jd jdt_Mo_isDigit 7 rfl) rfl) ?_
      exact J_some (fun hx => hR 1 hx _ _ (jd jdt_Mo_isDigit 9 rfl) rfl)
end
theorem C_Mo_isDigit (l : Launch) (G : JG) (F : jF G = false) (a0 : Int32)  (M : SM) {q : Int32} (hf : f_Mo_isDigit a0 = some q) : jMet l jy_Mo_isDigit jb_Mo_isDigit 1 (some FieldType.boolean) 1 0 0 G [.int a0] jN0 (jce G M) (some (.int q)) jN0 (jce G M) :=
  j_met jo_Mo_isDigit (by decide) (Nat.le_of_ble_eq_true rfl) (fun p e s m args below meth c C hr hm => K_Mo_isDigit C F (Nat.le_refl _) a0  M (fun t => t = q) (fun v hX pc ls hd hn => by cases hX; exact w_iret C hr hn hd) _ hf rfl)
def f_Mo_isIn (a0 : Int64) (a1 : Int64) (a2 : Int64) : Option Int32 := if a0 < a1 then (some 0) else (if a2 < a0 then (some 0) else (some 1))
section
variable {p : Program} {l : Launch} {e : Env} {R : Room} {s : State} {m : MethodId} {args : Array Value} {below : List Frame} {meth : Method} {c : Code} {G : JG} {D : Nat} {Q : State → Prop}
set_option maxHeartbeats 4000000 in
set_option maxRecDepth 20000 in
theorem K_Mo_isIn (C : jCx p R s m args meth c G jb_Mo_isIn 6 D "SluicePitModel") (F : jF G = false) (hD : 1 ≤ D) (a0 : Int64) (a1 : Int64) (a2 : Int64)  (M : SM) (X : Int32 → Prop) (hR : ∀ v, X v → ∀ (pc : Nat) (ls : List (Option Value)), decode jb_Mo_isIn pc = .ok (.ireturn, 1) → narrow FieldType.boolean (.int v) = .int v → Wk p l e R s m args below meth c G 6 Q 0 0 jN0 (jce G M) pc ls [.int v]) : J X (f_Mo_isIn a0 a1 a2) (Wk p l e R s m args below meth c G 6 Q 0 0 jN0 (jce G M) 0 [some (.long a0), none, some (.long a1), none, some (.long a2), none] []) := by
  unfold f_Mo_isIn
  refine J_mono (w_lload_n C (jd jdt_Mo_isIn 0 rfl) rfl) ?_
  refine J_mono (w_lload_n C (jd jdt_Mo_isIn 1 rfl) rfl) ?_
  refine J_br (w_lcmp_lt C (jd jdt_Mo_isIn 2 rfl) (jd jdt_Mo_isIn 3 rfl) rfl) (fun h1 => J_pos h1 ?_) (fun h1 => J_neg h1 ?_)
  · refine J_mono (w_iconst_0 C (jd jdt_Mo_isIn 10 rfl)) ?_
    exact J_some (fun hx => hR 0 hx _ _ (jd jdt_Mo_isIn 11 rfl) rfl)
  · refine J_mono (w_lload_n C (jd jdt_Mo_isIn 4 rfl) rfl) ?_
    refine J_mono (w_lload C (jd jdt_Mo_isIn 5 rfl) rfl) ?_
    refine J_br (w_lcmp_gt C (jd jdt_Mo_isIn 6 rfl) (jd jdt_Mo_isIn 7 rfl) rfl) (fun h2 => J_pos h2 ?_) (fun h2 => J_neg h2 ?_)
    · refine J_mono (w_iconst_0 C (jd jdt_Mo_isIn 10 rfl)) ?_
      exact J_some (fun hx => hR 0 hx _ _ (jd jdt_Mo_isIn 11 rfl) rfl)
    · refine J_mono (w_iconst_1 C (jd jdt_Mo_isIn 8 rfl)) ?_
      refine J_mono (w_goto C (jd jdt_Mo_isIn 9 rfl) rfl) ?_
      exact J_some (fun hx => hR 1 hx _ _ (jd jdt_Mo_isIn 11 rfl) rfl)
end
theorem C_Mo_isIn (l : Launch) (G : JG) (F : jF G = false) (a0 : Int64) (a1 : Int64) (a2 : Int64)  (M : SM) {q : Int32} (hf : f_Mo_isIn a0 a1 a2 = some q) : jMet l jy_Mo_isIn jb_Mo_isIn 6 (some FieldType.boolean) 1 0 0 G [.long a0, .long a1, .long a2] jN0 (jce G M) (some (.int q)) jN0 (jce G M) :=
  j_met jo_Mo_isIn (by decide) (Nat.le_of_ble_eq_true rfl) (fun p e s m args below meth c C hr hm => K_Mo_isIn C F (Nat.le_refl _) a0 a1 a2  M (fun t => t = q) (fun v hX pc ls hd hn => by cases hX; exact w_iret C hr hn hd) _ hf rfl)
def lp_Mo_number_49 (y0 : Nat) (y3 : Int32) : Nat → Int32 → SM → Option ((Int32 × SM) ⊕ (Int32 × SM))
  | 0, _, _ => none
  | n + 1, x4, M => if (M.1 y0 2) < (M.1 y0 3) then ((aI M (jpf y0 0) (M.1 y0 2)).bind fun v9 => (f_Mo_isDigit v9).bind fun q10 => if q10 = 0 then (some (.inl (x4, M))) else (if ((M.1 y0 2) - y3) = 4 then ((f_Mo_fail y0 1 (M.1 y0 2) M).bind fun q13 => some (.inr (0, q13))) else ((aI M (jpf y0 0) (M.1 y0 2)).bind fun v14 => lp_Mo_number_49 y0 y3 n (((10 * x4) + v14) - 48) (sI M y0 2 ((M.1 y0 2) + 1))))) else (some (.inl (x4, M)))
def f_Mo_number (a0 : Nat) (a1 : Int32) (a2 : Int32) (M : SM) : Option (Int32 × SM) := if (M.1 a0 5) = 0 then ((f_Mo_look a0 M).bind fun q2 => (f_Mo_isDigit q2.1).bind fun q3 => if q3 = 0 then ((f_Mo_fail a0 1 (q2.2.1 a0 2) q2.2).bind fun q5 => some (0, q5)) else (if (q2.2.1 a0 2) = (q2.2.1 a0 4) then ((f_Mo_fail a0 1 (q2.2.1 a0 2) q2.2).bind fun q7 => some (0, q7)) else (jsb (lp_Mo_number_49 a0 (q2.2.1 a0 2) jfuel 0 q2.2) id fun q15 => (f_Mo_isIn (Int32.toInt64 q15.1) a1.toInt64 a2.toInt64).bind fun q16 => if q16 = 0 then ((f_Mo_fail a0 2 (q2.2.1 a0 2) (sI (sI q15.2 a0 4 (q15.2.1 a0 2)) a0 9 (q2.2.1 a0 2))).bind fun q18 => some (q15.1, q18)) else (some (q15.1, sI (sI q15.2 a0 4 (q15.2.1 a0 2)) a0 9 (q2.2.1 a0 2)))))) else (some (0, M))
section
variable {p : Program} {l : Launch} {e : Env} {R : Room} {s : State} {m : MethodId} {args : Array Value} {below : List Frame} {meth : Method} {c : Code} {G : JG} {D : Nat} {Q : State → Prop}
set_option maxHeartbeats 4000000 in
set_option maxRecDepth 20000 in
theorem K_Mo_number (C : jCx p R s m args meth c G jb_Mo_number 5 D "SluicePitModel") (F : jF G = false) (hD : 2 ≤ D) (a0 : Nat) (a1 : Int32) (a2 : Int32) (hp0 : jkd a0 12) (M : SM) (X : (Int32 × SM) → Prop) (hR : ∀ v M', X (v, M') → ∀ (pc : Nat) (ls : List (Option Value)), decode jb_Mo_number pc = .ok (.ireturn, 1) → narrow FieldType.int (.int v) = .int v → Wk p l e R s m args below meth c G 5 Q 0 0 jN0 (jce G M') pc ls [.int v]) : J X (f_Mo_number a0 a1 a2 M) (Wk p l e R s m args below meth c G 5 Q 0 0 jN0 (jce G M) 0 [some (.ref a0), some (.int a1), some (.int a2), none, none] []) := by
  unfold f_Mo_number
  refine J_mono (w_aload_n C (jd jdt_Mo_number 0 rfl) rfl) ?_
  refine J_mono (jg_Mo_218 C hp0 (jd jdt_Mo_number 1 rfl)) ?_
  refine J_br (w_if_eq (y := 0) C (jd jdt_Mo_number 2 rfl) rfl) (fun h1 => J_pos h1 ?_) (fun h1 => J_neg h1 ?_)
  · refine J_mono (w_aload_n C (jd jdt_Mo_number 5 rfl) rfl) ?_
    refine J_bind (fun q2 hq2 => ?_)
    refine J_mono (jc_Mo_230 C hp0 (C_Mo_look l G F a0 hp0 M hq2) rfl (Nat.le_trans (Nat.le_of_ble_eq_true rfl : 1 + 1 ≤ 2) hD) (jd jdt_Mo_number 6 rfl)) ?_
    refine J_bind (fun q3 hq3 => ?_)
    refine J_mono (jc_Mo_255 C (C_Mo_isDigit l G F q2.1 q2.2 hq3) rfl (Nat.le_trans (Nat.le_of_ble_eq_true rfl : 1 + 1 ≤ 2) hD) (jd jdt_Mo_number 7 rfl)) ?_
    refine J_br (w_if_eq (y := 0) C (jd jdt_Mo_number 8 rfl) rfl) (fun h4 => J_pos h4 ?_) (fun h4 => J_neg h4 ?_)
    · refine J_mono (w_aload_n C (jd jdt_Mo_number 14 rfl) rfl) ?_
      refine J_mono (w_iconst_1 C (jd jdt_Mo_number 15 rfl)) ?_
      refine J_mono (w_aload_n C (jd jdt_Mo_number 16 rfl) rfl) ?_
      refine J_mono (jg_Mo_224 C hp0 (jd jdt_Mo_number 17 rfl)) ?_
      refine J_bind (fun q5 hq5 => ?_)
      refine J_mono (jc_Mo_248 C hp0 (C_Mo_fail l G F a0 1 (q2.2.1 a0 2) hp0 q2.2 hq5) rfl (Nat.le_trans (Nat.le_of_ble_eq_true rfl : 1 + 1 ≤ 2) hD) (jd jdt_Mo_number 18 rfl)) ?_
      refine J_mono (w_iconst_0 C (jd jdt_Mo_number 19 rfl)) ?_
      exact J_some (fun hx => hR 0 q5 hx _ _ (jd jdt_Mo_number 20 rfl) rfl)
    · refine J_mono (w_aload_n C (jd jdt_Mo_number 9 rfl) rfl) ?_
      refine J_mono (jg_Mo_224 C hp0 (jd jdt_Mo_number 10 rfl)) ?_
      refine J_mono (w_aload_n C (jd jdt_Mo_number 11 rfl) rfl) ?_
      refine J_mono (jg_Mo_238 C hp0 (jd jdt_Mo_number 12 rfl)) ?_
      refine J_br (w_icmp_ne C (jd jdt_Mo_number 13 rfl) rfl) (fun h6 => J_pos h6 ?_) (fun h6 => J_neg h6 ?_)
      · refine J_mono (w_aload_n C (jd jdt_Mo_number 14 rfl) rfl) ?_
        refine J_mono (w_iconst_1 C (jd jdt_Mo_number 15 rfl)) ?_
        refine J_mono (w_aload_n C (jd jdt_Mo_number 16 rfl) rfl) ?_
        refine J_mono (jg_Mo_224 C hp0 (jd jdt_Mo_number 17 rfl)) ?_
        refine J_bind (fun q7 hq7 => ?_)
        refine J_mono (jc_Mo_248 C hp0 (C_Mo_fail l G F a0 1 (q2.2.1 a0 2) hp0 q2.2 hq7) rfl (Nat.le_trans (Nat.le_of_ble_eq_true rfl : 1 + 1 ≤ 2) hD) (jd jdt_Mo_number 18 rfl)) ?_
        refine J_mono (w_iconst_0 C (jd jdt_Mo_number 19 rfl)) ?_
        exact J_some (fun hx => hR 0 q7 hx _ _ (jd jdt_Mo_number 20 rfl) rfl)
      · refine J_mono (w_aload_n C (jd jdt_Mo_number 21 rfl) rfl) ?_
        refine J_mono (jg_Mo_224 C hp0 (jd jdt_Mo_number 22 rfl)) ?_
        refine J_mono (w_istore_n (ls' := [some (.ref a0), some (.int a1), some (.int a2), some (.int (q2.2.1 a0 2)), none]) C (jd jdt_Mo_number 23 rfl) (by decide) rfl rfl) ?_
        refine J_mono (w_iconst_0 C (jd jdt_Mo_number 24 rfl)) ?_
        refine J_mono (w_istore (ls' := [some (.ref a0), some (.int a1), some (.int a2), some (.int (q2.2.1 a0 2)), some (.int 0)]) C (jd jdt_Mo_number 25 rfl) (by decide) rfl rfl) ?_
        have L49 : ∀ (y0 : Nat) (y1 : Int32) (y2 : Int32) (y3 : Int32) (hy0 : jkd y0 12) (n : Nat) (x4 : Int32) (M : SM), J (Sum.elim (fun (q15 : Int32 × SM) => Wk p l e R s m args below meth c G 5 Q 0 0 jN0 (jce G q15.2) 129 [some (.ref y0), some (.int y1), some (.int y2), some (.int y3), some (.int q15.1)] []) X) (lp_Mo_number_49 y0 y3 n x4 M) (Wk p l e R s m args below meth c G 5 Q 0 0 jN0 (jce G M) 49 [some (.ref y0), some (.int y1), some (.int y2), some (.int y3), some (.int x4)] []) := by
          intro y0 y1 y2 y3 hy0 n
          induction n with
          | zero => intro x4 M; exact J_none
          | succ n ih =>
            intro x4 M
            unfold lp_Mo_number_49
            refine J_mono (w_aload_n C (jd jdt_Mo_number 26 rfl) rfl) ?_
            refine J_mono (jg_Mo_224 C hy0 (jd jdt_Mo_number 27 rfl)) ?_
            refine J_mono (w_aload_n C (jd jdt_Mo_number 28 rfl) rfl) ?_
            refine J_mono (jg_Mo_227 C hy0 (jd jdt_Mo_number 29 rfl)) ?_
            refine J_br (w_icmp_ge C (jd jdt_Mo_number 30 rfl) rfl) (fun h8 => J_pos h8 ?_) (fun h8 => J_neg h8 ?_)
            · refine J_mono (w_aload_n C (jd jdt_Mo_number 31 rfl) rfl) ?_
              refine J_mono (jg_Mo_7 C hy0 (jd jdt_Mo_number 32 rfl)) ?_
              refine J_mono (w_aload_n C (jd jdt_Mo_number 33 rfl) rfl) ?_
              refine J_mono (jg_Mo_224 C hy0 (jd jdt_Mo_number 34 rfl)) ?_
              refine J_bind (fun v9 hv9 => ?_)
              refine J_mono (w_iald C (jkf_12_0 hy0) hv9 (jd jdt_Mo_number 35 rfl)) ?_
              refine J_bind (fun q10 hq10 => ?_)
              refine J_mono (jc_Mo_255 C (C_Mo_isDigit l G F v9 M hq10) rfl (Nat.le_trans (Nat.le_of_ble_eq_true rfl : 1 + 1 ≤ 2) hD) (jd jdt_Mo_number 36 rfl)) ?_
              refine J_br (w_if_eq (y := 0) C (jd jdt_Mo_number 37 rfl) rfl) (fun h11 => J_pos h11 ?_) (fun h11 => J_neg h11 ?_)
              · exact J_some (fun hx => Wk_sb hx ⟨rfl, rfl, rfl, rfl, rfl, trivial⟩)
              · refine J_mono (w_aload_n C (jd jdt_Mo_number 38 rfl) rfl) ?_
                refine J_mono (jg_Mo_224 C hy0 (jd jdt_Mo_number 39 rfl)) ?_
                refine J_mono (w_iload_n C (jd jdt_Mo_number 40 rfl) rfl) ?_
                refine J_mono (w_isub C (jd jdt_Mo_number 41 rfl)) ?_
                refine J_mono (w_iconst_4 C (jd jdt_Mo_number 42 rfl)) ?_
                refine J_br (w_icmp_ne C (jd jdt_Mo_number 43 rfl) rfl) (fun h12 => J_pos h12 ?_) (fun h12 => J_neg h12 ?_)
                · refine J_mono (w_aload_n C (jd jdt_Mo_number 44 rfl) rfl) ?_
                  refine J_mono (w_iconst_1 C (jd jdt_Mo_number 45 rfl)) ?_
                  refine J_mono (w_aload_n C (jd jdt_Mo_number 46 rfl) rfl) ?_
                  refine J_mono (jg_Mo_224 C hy0 (jd jdt_Mo_number 47 rfl)) ?_
                  refine J_bind (fun q13 hq13 => ?_)
                  refine J_mono (jc_Mo_248 C hy0 (C_Mo_fail l G F y0 1 (M.1 y0 2) hy0 M hq13) rfl (Nat.le_trans (Nat.le_of_ble_eq_true rfl : 1 + 1 ≤ 2) hD) (jd jdt_Mo_number 48 rfl)) ?_
                  refine J_mono (w_iconst_0 C (jd jdt_Mo_number 49 rfl)) ?_
                  exact J_some (fun hx => hR 0 q13 hx _ _ (jd jdt_Mo_number 50 rfl) rfl)
                · refine J_mono (w_bipush_10 C (jd jdt_Mo_number 51 rfl)) ?_
                  refine J_mono (w_iload C (jd jdt_Mo_number 52 rfl) rfl) ?_
                  refine J_mono (w_imul C (jd jdt_Mo_number 53 rfl)) ?_
                  refine J_mono (w_aload_n C (jd jdt_Mo_number 54 rfl) rfl) ?_
                  refine J_mono (jg_Mo_7 C hy0 (jd jdt_Mo_number 55 rfl)) ?_
                  refine J_mono (w_aload_n C (jd jdt_Mo_number 56 rfl) rfl) ?_
                  refine J_mono (jg_Mo_224 C hy0 (jd jdt_Mo_number 57 rfl)) ?_
                  refine J_bind (fun v14 hv14 => ?_)
                  refine J_mono (w_iald C (jkf_12_0 hy0) hv14 (jd jdt_Mo_number 58 rfl)) ?_
                  refine J_mono (w_iadd C (jd jdt_Mo_number 59 rfl)) ?_
                  refine J_mono (w_bipush_48 C (jd jdt_Mo_number 60 rfl)) ?_
                  refine J_mono (w_isub C (jd jdt_Mo_number 61 rfl)) ?_
                  refine J_mono (w_istore (ls' := [some (.ref y0), some (.int y1), some (.int y2), some (.int y3), some (.int (((10 * x4) + v14) - 48))]) C (jd jdt_Mo_number 62 rfl) (by decide) rfl rfl) ?_
                  refine J_mono (w_aload_n C (jd jdt_Mo_number 63 rfl) rfl) ?_
                  refine J_mono (w_dup_r C (jd jdt_Mo_number 64 rfl)) ?_
                  refine J_mono (jg_Mo_224 C hy0 (jd jdt_Mo_number 65 rfl)) ?_
                  refine J_mono (w_iconst_1 C (jd jdt_Mo_number 66 rfl)) ?_
                  refine J_mono (w_iadd C (jd jdt_Mo_number 67 rfl)) ?_
                  refine J_mono (jp_Mo_224 C F hy0 (jd jdt_Mo_number 68 rfl)) ?_
                  refine J_mono (w_goto C (jd jdt_Mo_number 69 rfl) rfl) ?_
                  exact J_sub (ih (((10 * x4) + v14) - 48) (sI M y0 2 ((M.1 y0 2) + 1))) ⟨rfl, rfl, rfl, rfl, rfl, trivial⟩
            · exact J_some (fun hx => Wk_sb hx ⟨rfl, rfl, rfl, rfl, rfl, trivial⟩)
        refine J_sb (fun (q15 : Int32 × SM) => Wk p l e R s m args below meth c G 5 Q 0 0 jN0 (jce G q15.2) 129 [some (.ref a0), some (.int a1), some (.int a2), some (.int (q2.2.1 a0 2)), some (.int q15.1)] []) (J_sub (L49 a0 a1 a2 (q2.2.1 a0 2) hp0 jfuel 0 q2.2) ⟨rfl, rfl, rfl, rfl, rfl, trivial⟩) (fun q15 => ?_)
        refine J_mono (w_aload_n C (jd jdt_Mo_number 70 rfl) rfl) ?_
        refine J_mono (w_aload_n C (jd jdt_Mo_number 71 rfl) rfl) ?_
        refine J_mono (jg_Mo_224 C hp0 (jd jdt_Mo_number 72 rfl)) ?_
        refine J_mono (jp_Mo_238 C F hp0 (jd jdt_Mo_number 73 rfl)) ?_
        refine J_mono (w_aload_n C (jd jdt_Mo_number 74 rfl) rfl) ?_
        refine J_mono (w_iload_n C (jd jdt_Mo_number 75 rfl) rfl) ?_
        refine J_mono (jp_Mo_258 C F hp0 (jd jdt_Mo_number 76 rfl)) ?_
        refine J_mono (w_iload C (jd jdt_Mo_number 77 rfl) rfl) ?_
        refine J_mono (w_i2l C (jd jdt_Mo_number 78 rfl)) ?_
        refine J_mono (w_iload_n C (jd jdt_Mo_number 79 rfl) rfl) ?_
        refine J_mono (w_i2l C (jd jdt_Mo_number 80 rfl)) ?_
        refine J_mono (w_iload_n C (jd jdt_Mo_number 81 rfl) rfl) ?_
        refine J_mono (w_i2l C (jd jdt_Mo_number 82 rfl)) ?_
        refine J_bind (fun q16 hq16 => ?_)
        refine J_mono (jc_Mo_261 C (C_Mo_isIn l G F (Int32.toInt64 q15.1) a1.toInt64 a2.toInt64 (sI (sI q15.2 a0 4 (q15.2.1 a0 2)) a0 9 (q2.2.1 a0 2)) hq16) rfl (Nat.le_trans (Nat.le_of_ble_eq_true rfl : 1 + 1 ≤ 2) hD) (jd jdt_Mo_number 83 rfl)) ?_
        refine J_br (w_if_ne (y := 0) C (jd jdt_Mo_number 84 rfl) rfl) (fun h17 => J_pos h17 ?_) (fun h17 => J_neg h17 ?_)
        · refine J_mono (w_aload_n C (jd jdt_Mo_number 85 rfl) rfl) ?_
          refine J_mono (w_iconst_2 C (jd jdt_Mo_number 86 rfl)) ?_
          refine J_mono (w_iload_n C (jd jdt_Mo_number 87 rfl) rfl) ?_
          refine J_bind (fun q18 hq18 => ?_)
          refine J_mono (jc_Mo_248 C hp0 (C_Mo_fail l G F a0 2 (q2.2.1 a0 2) hp0 (sI (sI q15.2 a0 4 (q15.2.1 a0 2)) a0 9 (q2.2.1 a0 2)) hq18) rfl (Nat.le_trans (Nat.le_of_ble_eq_true rfl : 1 + 1 ≤ 2) hD) (jd jdt_Mo_number 88 rfl)) ?_
          refine J_mono (w_iload C (jd jdt_Mo_number 89 rfl) rfl) ?_
          exact J_some (fun hx => hR q15.1 q18 hx _ _ (jd jdt_Mo_number 90 rfl) rfl)
        · refine J_mono (w_iload C (jd jdt_Mo_number 89 rfl) rfl) ?_
          exact J_some (fun hx => hR q15.1 (sI (sI q15.2 a0 4 (q15.2.1 a0 2)) a0 9 (q2.2.1 a0 2)) hx _ _ (jd jdt_Mo_number 90 rfl) rfl)
  · refine J_mono (w_iconst_0 C (jd jdt_Mo_number 3 rfl)) ?_
    exact J_some (fun hx => hR 0 M hx _ _ (jd jdt_Mo_number 4 rfl) rfl)
end
theorem C_Mo_number (l : Launch) (G : JG) (F : jF G = false) (a0 : Nat) (a1 : Int32) (a2 : Int32) (hp0 : jkd a0 12) (M : SM) {q : (Int32 × SM)} (hf : f_Mo_number a0 a1 a2 M = some q) : jMet l jy_Mo_number jb_Mo_number 5 (some FieldType.int) 2 0 0 G [.ref a0, .int a1, .int a2] jN0 (jce G M) (some (.int q.1)) jN0 (jce G q.2) :=
  j_met jo_Mo_number (by decide) (Nat.le_of_ble_eq_true rfl) (fun p e s m args below meth c C hr hm => K_Mo_number C F (Nat.le_refl _) a0 a1 a2 hp0 M (fun t => t = q) (fun v M' hX pc ls hd hn => by cases hX; exact w_iret C hr hn hd) _ hf rfl)
def f_Mo_takesSign (a0 : Nat) (a1 : Int32) (M : SM) : Option (Int32 × SM) := if (M.1 a0 5) = 0 then ((f_Mo_look a0 M).bind fun q2 => if q2.1 = a1 then (some (1, sI q2.2 a0 2 ((q2.2.1 a0 2) + 1))) else (some (0, q2.2))) else (some (0, M))
section
variable {p : Program} {l : Launch} {e : Env} {R : Room} {s : State} {m : MethodId} {args : Array Value} {below : List Frame} {meth : Method} {c : Code} {G : JG} {D : Nat} {Q : State → Prop}
set_option maxHeartbeats 4000000 in
set_option maxRecDepth 20000 in
theorem K_Mo_takesSign (C : jCx p R s m args meth c G jb_Mo_takesSign 2 D "SluicePitModel") (F : jF G = false) (hD : 2 ≤ D) (a0 : Nat) (a1 : Int32) (hp0 : jkd a0 12) (M : SM) (X : (Int32 × SM) → Prop) (hR : ∀ v M', X (v, M') → ∀ (pc : Nat) (ls : List (Option Value)), decode jb_Mo_takesSign pc = .ok (.ireturn, 1) → narrow FieldType.boolean (.int v) = .int v → Wk p l e R s m args below meth c G 2 Q 0 0 jN0 (jce G M') pc ls [.int v]) : J X (f_Mo_takesSign a0 a1 M) (Wk p l e R s m args below meth c G 2 Q 0 0 jN0 (jce G M) 0 [some (.ref a0), some (.int a1)] []) := by
  unfold f_Mo_takesSign
  refine J_mono (w_aload_n C (jd jdt_Mo_takesSign 0 rfl) rfl) ?_
  refine J_mono (jg_Mo_218 C hp0 (jd jdt_Mo_takesSign 1 rfl)) ?_
  refine J_br (w_if_ne (y := 0) C (jd jdt_Mo_takesSign 2 rfl) rfl) (fun h1 => J_pos h1 ?_) (fun h1 => J_neg h1 ?_)
  · refine J_mono (w_aload_n C (jd jdt_Mo_takesSign 3 rfl) rfl) ?_
    refine J_bind (fun q2 hq2 => ?_)
    refine J_mono (jc_Mo_230 C hp0 (C_Mo_look l G F a0 hp0 M hq2) rfl (Nat.le_trans (Nat.le_of_ble_eq_true rfl : 1 + 1 ≤ 2) hD) (jd jdt_Mo_takesSign 4 rfl)) ?_
    refine J_mono (w_iload_n C (jd jdt_Mo_takesSign 5 rfl) rfl) ?_
    refine J_br (w_icmp_eq C (jd jdt_Mo_takesSign 6 rfl) rfl) (fun h3 => J_pos h3 ?_) (fun h3 => J_neg h3 ?_)
    · refine J_mono (w_aload_n C (jd jdt_Mo_takesSign 9 rfl) rfl) ?_
      refine J_mono (w_dup_r C (jd jdt_Mo_takesSign 10 rfl)) ?_
      refine J_mono (jg_Mo_224 C hp0 (jd jdt_Mo_takesSign 11 rfl)) ?_
      refine J_mono (w_iconst_1 C (jd jdt_Mo_takesSign 12 rfl)) ?_
      refine J_mono (w_iadd C (jd jdt_Mo_takesSign 13 rfl)) ?_
      refine J_mono (jp_Mo_224 C F hp0 (jd jdt_Mo_takesSign 14 rfl)) ?_
      refine J_mono (w_iconst_1 C (jd jdt_Mo_takesSign 15 rfl)) ?_
      exact J_some (fun hx => hR 1 (sI q2.2 a0 2 ((q2.2.1 a0 2) + 1)) hx _ _ (jd jdt_Mo_takesSign 16 rfl) rfl)
    · refine J_mono (w_iconst_0 C (jd jdt_Mo_takesSign 7 rfl)) ?_
      exact J_some (fun hx => hR 0 q2.2 hx _ _ (jd jdt_Mo_takesSign 8 rfl) rfl)
  · refine J_mono (w_iconst_0 C (jd jdt_Mo_takesSign 7 rfl)) ?_
    exact J_some (fun hx => hR 0 M hx _ _ (jd jdt_Mo_takesSign 8 rfl) rfl)
end
theorem C_Mo_takesSign (l : Launch) (G : JG) (F : jF G = false) (a0 : Nat) (a1 : Int32) (hp0 : jkd a0 12) (M : SM) {q : (Int32 × SM)} (hf : f_Mo_takesSign a0 a1 M = some q) : jMet l jy_Mo_takesSign jb_Mo_takesSign 2 (some FieldType.boolean) 2 0 0 G [.ref a0, .int a1] jN0 (jce G M) (some (.int q.1)) jN0 (jce G q.2) :=
  j_met jo_Mo_takesSign (by decide) (Nat.le_of_ble_eq_true rfl) (fun p e s m args below meth c C hr hm => K_Mo_takesSign C F (Nat.le_refl _) a0 a1 hp0 M (fun t => t = q) (fun v M' hX pc ls hd hn => by cases hX; exact w_iret C hr hn hd) _ hf rfl)
def f_Mo_asksSign (a0 : Nat) (a1 : Int32) (M : SM) : Option SM := if (M.1 a0 5) = 0 then ((f_Mo_takesSign a0 a1 M).bind fun q2 => if q2.1 = 0 then ((f_Mo_fail a0 1 (q2.2.1 a0 2) q2.2).bind fun q4 => some q4) else (some q2.2)) else (some M)
section
variable {p : Program} {l : Launch} {e : Env} {R : Room} {s : State} {m : MethodId} {args : Array Value} {below : List Frame} {meth : Method} {c : Code} {G : JG} {D : Nat} {Q : State → Prop}
set_option maxHeartbeats 4000000 in
set_option maxRecDepth 20000 in
theorem K_Mo_asksSign (C : jCx p R s m args meth c G jb_Mo_asksSign 2 D "SluicePitModel") (F : jF G = false) (hD : 3 ≤ D) (a0 : Nat) (a1 : Int32) (hp0 : jkd a0 12) (M : SM) (X : SM → Prop) (hR : ∀ M', X M' → ∀ (pc : Nat) (ls : List (Option Value)), decode jb_Mo_asksSign pc = .ok (.return_, 1) → Wk p l e R s m args below meth c G 2 Q 0 0 jN0 (jce G M') pc ls []) : J X (f_Mo_asksSign a0 a1 M) (Wk p l e R s m args below meth c G 2 Q 0 0 jN0 (jce G M) 0 [some (.ref a0), some (.int a1)] []) := by
  unfold f_Mo_asksSign
  refine J_mono (w_aload_n C (jd jdt_Mo_asksSign 0 rfl) rfl) ?_
  refine J_mono (jg_Mo_218 C hp0 (jd jdt_Mo_asksSign 1 rfl)) ?_
  refine J_br (w_if_ne (y := 0) C (jd jdt_Mo_asksSign 2 rfl) rfl) (fun h1 => J_pos h1 ?_) (fun h1 => J_neg h1 ?_)
  · refine J_mono (w_aload_n C (jd jdt_Mo_asksSign 3 rfl) rfl) ?_
    refine J_mono (w_iload_n C (jd jdt_Mo_asksSign 4 rfl) rfl) ?_
    refine J_bind (fun q2 hq2 => ?_)
    refine J_mono (jc_Mo_252 C hp0 (C_Mo_takesSign l G F a0 a1 hp0 M hq2) rfl (Nat.le_trans (Nat.le_of_ble_eq_true rfl : 2 + 1 ≤ 3) hD) (jd jdt_Mo_asksSign 5 rfl)) ?_
    refine J_br (w_if_ne (y := 0) C (jd jdt_Mo_asksSign 6 rfl) rfl) (fun h3 => J_pos h3 ?_) (fun h3 => J_neg h3 ?_)
    · refine J_mono (w_aload_n C (jd jdt_Mo_asksSign 7 rfl) rfl) ?_
      refine J_mono (w_iconst_1 C (jd jdt_Mo_asksSign 8 rfl)) ?_
      refine J_mono (w_aload_n C (jd jdt_Mo_asksSign 9 rfl) rfl) ?_
      refine J_mono (jg_Mo_224 C hp0 (jd jdt_Mo_asksSign 10 rfl)) ?_
      refine J_bind (fun q4 hq4 => ?_)
      refine J_mono (jc_Mo_248 C hp0 (C_Mo_fail l G F a0 1 (q2.2.1 a0 2) hp0 q2.2 hq4) rfl (Nat.le_trans (Nat.le_of_ble_eq_true rfl : 1 + 1 ≤ 3) hD) (jd jdt_Mo_asksSign 11 rfl)) ?_
      exact J_some (fun hx => hR q4 hx _ _ (jd jdt_Mo_asksSign 12 rfl))
    · exact J_some (fun hx => hR q2.2 hx _ _ (jd jdt_Mo_asksSign 12 rfl))
  · exact J_some (fun hx => hR M hx _ _ (jd jdt_Mo_asksSign 12 rfl))
end
theorem C_Mo_asksSign (l : Launch) (G : JG) (F : jF G = false) (a0 : Nat) (a1 : Int32) (hp0 : jkd a0 12) (M : SM) {q : SM} (hf : f_Mo_asksSign a0 a1 M = some q) : jMet l jy_Mo_asksSign jb_Mo_asksSign 2 none 3 0 0 G [.ref a0, .int a1] jN0 (jce G M) none jN0 (jce G q) :=
  j_met jo_Mo_asksSign (by decide) (Nat.le_of_ble_eq_true rfl) (fun p e s m args below meth c C hr hm => K_Mo_asksSign C F (Nat.le_refl _) a0 a1 hp0 M (fun t => t = q) (fun M' hX pc ls hd => by cases hX; exact w_vret C hr hd) _ hf rfl)
def f_Mo_cellTold (a0 : Nat) (M : SM) : Option (Int32 × SM) := (f_Mo_number a0 0 ((M.1 a0 30) - 1) M).bind fun q1 => some (q1.1, q1.2)
section
variable {p : Program} {l : Launch} {e : Env} {R : Room} {s : State} {m : MethodId} {args : Array Value} {below : List Frame} {meth : Method} {c : Code} {G : JG} {D : Nat} {Q : State → Prop}
set_option maxHeartbeats 4000000 in
set_option maxRecDepth 20000 in
theorem K_Mo_cellTold (C : jCx p R s m args meth c G jb_Mo_cellTold 1 D "SluicePitModel") (F : jF G = false) (hD : 3 ≤ D) (a0 : Nat) (hp0 : jkd a0 12) (M : SM) (X : (Int32 × SM) → Prop) (hR : ∀ v M', X (v, M') → ∀ (pc : Nat) (ls : List (Option Value)), decode jb_Mo_cellTold pc = .ok (.ireturn, 1) → narrow FieldType.int (.int v) = .int v → Wk p l e R s m args below meth c G 1 Q 0 0 jN0 (jce G M') pc ls [.int v]) : J X (f_Mo_cellTold a0 M) (Wk p l e R s m args below meth c G 1 Q 0 0 jN0 (jce G M) 0 [some (.ref a0)] []) := by
  unfold f_Mo_cellTold
  refine J_mono (w_aload_n C (jd jdt_Mo_cellTold 0 rfl) rfl) ?_
  refine J_mono (w_iconst_0 C (jd jdt_Mo_cellTold 1 rfl)) ?_
  refine J_mono (w_aload_n C (jd jdt_Mo_cellTold 2 rfl) rfl) ?_
  refine J_mono (jg_Mo_280 C hp0 (jd jdt_Mo_cellTold 3 rfl)) ?_
  refine J_mono (w_iconst_1 C (jd jdt_Mo_cellTold 4 rfl)) ?_
  refine J_mono (w_isub C (jd jdt_Mo_cellTold 5 rfl)) ?_
  refine J_bind (fun q1 hq1 => ?_)
  refine J_mono (jc_Mo_283 C hp0 (C_Mo_number l G F a0 0 ((M.1 a0 30) - 1) hp0 M hq1) rfl (Nat.le_trans (Nat.le_of_ble_eq_true rfl : 2 + 1 ≤ 3) hD) (jd jdt_Mo_cellTold 6 rfl)) ?_
  exact J_some (fun hx => hR q1.1 q1.2 hx _ _ (jd jdt_Mo_cellTold 7 rfl) rfl)
end
theorem C_Mo_cellTold (l : Launch) (G : JG) (F : jF G = false) (a0 : Nat) (hp0 : jkd a0 12) (M : SM) {q : (Int32 × SM)} (hf : f_Mo_cellTold a0 M = some q) : jMet l jy_Mo_cellTold jb_Mo_cellTold 1 (some FieldType.int) 3 0 0 G [.ref a0] jN0 (jce G M) (some (.int q.1)) jN0 (jce G q.2) :=
  j_met jo_Mo_cellTold (by decide) (Nat.le_of_ble_eq_true rfl) (fun p e s m args below meth c C hr hm => K_Mo_cellTold C F (Nat.le_refl _) a0 hp0 M (fun t => t = q) (fun v M' hX pc ls hd hn => by cases hX; exact w_iret C hr hn hd) _ hf rfl)
def f_Mo_cellIsTold (a0 : Nat) (a1 : Int32) (M : SM) : Option SM := (if a1 = 0 then (some 99) else (some 9) : Option (Int32)).bind fun q1 => (f_Mo_number a0 0 q1 M).bind fun q3 => (f_Mo_asks a0 (jpf a0 12) q3.2).bind fun q4 => (f_Mo_cellTold a0 q4).bind fun q5 => if (q5.2.1 a0 5) = 0 then (if a1 = 0 then ((aS q5.2 (jpf a0 33) q5.1 q3.1).bind fun M8 => some M8) else ((aS q5.2 (jpf a0 32) q5.1 q3.1).bind fun M9 => some M9)) else (some q5.2)
section
variable {p : Program} {l : Launch} {e : Env} {R : Room} {s : State} {m : MethodId} {args : Array Value} {below : List Frame} {meth : Method} {c : Code} {G : JG} {D : Nat} {Q : State → Prop}
set_option maxHeartbeats 4000000 in
set_option maxRecDepth 20000 in
theorem K_Mo_cellIsTold (C : jCx p R s m args meth c G jb_Mo_cellIsTold 4 D "SluicePitModel") (F : jF G = false) (hD : 5 ≤ D) (a0 : Nat) (a1 : Int32) (hp0 : jkd a0 12) (M : SM) (X : SM → Prop) (hR : ∀ M', X M' → ∀ (pc : Nat) (ls : List (Option Value)), decode jb_Mo_cellIsTold pc = .ok (.return_, 1) → Wk p l e R s m args below meth c G 4 Q 0 0 jN0 (jce G M') pc ls []) : J X (f_Mo_cellIsTold a0 a1 M) (Wk p l e R s m args below meth c G 4 Q 0 0 jN0 (jce G M) 0 [some (.ref a0), some (.int a1), none, none] []) := by
  unfold f_Mo_cellIsTold
  refine J_mono (w_aload_n C (jd jdt_Mo_cellIsTold 0 rfl) rfl) ?_
  refine J_mono (w_iconst_0 C (jd jdt_Mo_cellIsTold 1 rfl)) ?_
  refine J_mono (w_iload_n C (jd jdt_Mo_cellIsTold 2 rfl) rfl) ?_
  refine J_seq (fun (q1 : Int32) => Wk p l e R s m args below meth c G 4 Q 0 0 jN0 (jce G M) 13 [some (.ref a0), some (.int a1), none, none] [.int q1, .int 0, .ref a0]) ?_ (fun q1 hq1 => ?_)
  · refine J_br (w_if_eq (y := 0) C (jd jdt_Mo_cellIsTold 3 rfl) rfl) (fun h2 => J_pos h2 ?_) (fun h2 => J_neg h2 ?_)
    · refine J_mono (w_bipush_99 C (jd jdt_Mo_cellIsTold 6 rfl)) ?_
      exact J_some (fun hx => Wk_sb hx ⟨rfl, rfl, trivial⟩)
    · refine J_mono (w_bipush_9 C (jd jdt_Mo_cellIsTold 4 rfl)) ?_
      refine J_mono (w_goto C (jd jdt_Mo_cellIsTold 5 rfl) rfl) ?_
      exact J_some (fun hx => Wk_sb hx ⟨rfl, rfl, trivial⟩)
  · refine J_bind (fun q3 hq3 => ?_)
    refine J_mono (jc_Mo_283 C hp0 (C_Mo_number l G F a0 0 q1 hp0 M hq3) rfl (Nat.le_trans (Nat.le_of_ble_eq_true rfl : 2 + 1 ≤ 5) hD) (jd jdt_Mo_cellIsTold 7 rfl)) ?_
    refine J_mono (w_istore_n (ls' := [some (.ref a0), some (.int a1), some (.int q3.1), none]) C (jd jdt_Mo_cellIsTold 8 rfl) (by decide) rfl rfl) ?_
    refine J_mono (w_aload_n C (jd jdt_Mo_cellIsTold 9 rfl) rfl) ?_
    refine J_mono (w_aload_n C (jd jdt_Mo_cellIsTold 10 rfl) rfl) ?_
    refine J_mono (jg_Mo_24 C hp0 (jd jdt_Mo_cellIsTold 11 rfl)) ?_
    refine J_bind (fun q4 hq4 => ?_)
    refine J_mono (jc_Mo_304 C hp0 (C_Mo_asks l G F a0 (jpf a0 12) hp0 (jkf_12_12 hp0) q3.2 hq4) rfl (Nat.le_trans (Nat.le_of_ble_eq_true rfl : 4 + 1 ≤ 5) hD) (jd jdt_Mo_cellIsTold 12 rfl)) ?_
    refine J_mono (w_aload_n C (jd jdt_Mo_cellIsTold 13 rfl) rfl) ?_
    refine J_bind (fun q5 hq5 => ?_)
    refine J_mono (jc_Mo_330 C hp0 (C_Mo_cellTold l G F a0 hp0 q4 hq5) rfl (Nat.le_trans (Nat.le_of_ble_eq_true rfl : 3 + 1 ≤ 5) hD) (jd jdt_Mo_cellIsTold 14 rfl)) ?_
    refine J_mono (w_istore_n (ls' := [some (.ref a0), some (.int a1), some (.int q3.1), some (.int q5.1)]) C (jd jdt_Mo_cellIsTold 15 rfl) (by decide) rfl rfl) ?_
    refine J_mono (w_aload_n C (jd jdt_Mo_cellIsTold 16 rfl) rfl) ?_
    refine J_mono (jg_Mo_218 C hp0 (jd jdt_Mo_cellIsTold 17 rfl)) ?_
    refine J_br (w_if_eq (y := 0) C (jd jdt_Mo_cellIsTold 18 rfl) rfl) (fun h6 => J_pos h6 ?_) (fun h6 => J_neg h6 ?_)
    · refine J_mono (w_iload_n C (jd jdt_Mo_cellIsTold 20 rfl) rfl) ?_
      refine J_br (w_if_eq (y := 0) C (jd jdt_Mo_cellIsTold 21 rfl) rfl) (fun h7 => J_pos h7 ?_) (fun h7 => J_neg h7 ?_)
      · refine J_mono (w_aload_n C (jd jdt_Mo_cellIsTold 28 rfl) rfl) ?_
        refine J_mono (jg_Mo_79 C hp0 (jd jdt_Mo_cellIsTold 29 rfl)) ?_
        refine J_mono (w_iload_n C (jd jdt_Mo_cellIsTold 30 rfl) rfl) ?_
        refine J_mono (w_iload_n C (jd jdt_Mo_cellIsTold 31 rfl) rfl) ?_
        refine J_bind (fun M8 hM8 => ?_)
        refine J_mono (w_iast C F (jkf_12_33 hp0) hM8 (jd jdt_Mo_cellIsTold 32 rfl)) ?_
        exact J_some (fun hx => hR M8 hx _ _ (jd jdt_Mo_cellIsTold 33 rfl))
      · refine J_mono (w_aload_n C (jd jdt_Mo_cellIsTold 22 rfl) rfl) ?_
        refine J_mono (jg_Mo_76 C hp0 (jd jdt_Mo_cellIsTold 23 rfl)) ?_
        refine J_mono (w_iload_n C (jd jdt_Mo_cellIsTold 24 rfl) rfl) ?_
        refine J_mono (w_iload_n C (jd jdt_Mo_cellIsTold 25 rfl) rfl) ?_
        refine J_bind (fun M9 hM9 => ?_)
        refine J_mono (w_iast C F (jkf_12_32 hp0) hM9 (jd jdt_Mo_cellIsTold 26 rfl)) ?_
        refine J_mono (w_goto C (jd jdt_Mo_cellIsTold 27 rfl) rfl) ?_
        exact J_some (fun hx => hR M9 hx _ _ (jd jdt_Mo_cellIsTold 33 rfl))
    · exact J_some (fun hx => hR q5.2 hx _ _ (jd jdt_Mo_cellIsTold 19 rfl))
end
theorem C_Mo_cellIsTold (l : Launch) (G : JG) (F : jF G = false) (a0 : Nat) (a1 : Int32) (hp0 : jkd a0 12) (M : SM) {q : SM} (hf : f_Mo_cellIsTold a0 a1 M = some q) : jMet l jy_Mo_cellIsTold jb_Mo_cellIsTold 4 none 5 0 0 G [.ref a0, .int a1] jN0 (jce G M) none jN0 (jce G q) :=
  j_met jo_Mo_cellIsTold (by decide) (Nat.le_of_ble_eq_true rfl) (fun p e s m args below meth c C hr hm => K_Mo_cellIsTold C F (Nat.le_refl _) a0 a1 hp0 M (fun t => t = q) (fun M' hX pc ls hd => by cases hX; exact w_vret C hr hd) _ hf rfl)
def f_Mo_isFull (a0 : Nat) (a1 : Int32) (a2 : Int32) (a3 : Int32) (M : SM) : Option (Int32 × SM) := (if (M.1 a0 5) = 0 then ((aI M (jpf a0 28) a1).bind fun v3 => if v3 = a2 then ((f_Mo_fail a0 5 a3 M).bind fun q5 => some q5) else (some M)) else (some M) : Option (SM)).bind fun q1 => if (q1.1 a0 5) = 0 then (some (0, q1)) else (some (1, q1))
section
variable {p : Program} {l : Launch} {e : Env} {R : Room} {s : State} {m : MethodId} {args : Array Value} {below : List Frame} {meth : Method} {c : Code} {G : JG} {D : Nat} {Q : State → Prop}
set_option maxHeartbeats 4000000 in
set_option maxRecDepth 20000 in
theorem K_Mo_isFull (C : jCx p R s m args meth c G jb_Mo_isFull 4 D "SluicePitModel") (F : jF G = false) (hD : 2 ≤ D) (a0 : Nat) (a1 : Int32) (a2 : Int32) (a3 : Int32) (hp0 : jkd a0 12) (M : SM) (X : (Int32 × SM) → Prop) (hR : ∀ v M', X (v, M') → ∀ (pc : Nat) (ls : List (Option Value)), decode jb_Mo_isFull pc = .ok (.ireturn, 1) → narrow FieldType.boolean (.int v) = .int v → Wk p l e R s m args below meth c G 4 Q 0 0 jN0 (jce G M') pc ls [.int v]) : J X (f_Mo_isFull a0 a1 a2 a3 M) (Wk p l e R s m args below meth c G 4 Q 0 0 jN0 (jce G M) 0 [some (.ref a0), some (.int a1), some (.int a2), some (.int a3)] []) := by
  unfold f_Mo_isFull
  refine J_mono (w_aload_n C (jd jdt_Mo_isFull 0 rfl) rfl) ?_
  refine J_mono (jg_Mo_218 C hp0 (jd jdt_Mo_isFull 1 rfl)) ?_
  refine J_seq (fun (q1 : SM) => Wk p l e R s m args below meth c G 4 Q 0 0 jN0 (jce G q1) 23 [some (.ref a0), none, none, none] []) ?_ (fun q1 hq1 => ?_)
  · refine J_br (w_if_ne (y := 0) C (jd jdt_Mo_isFull 2 rfl) rfl) (fun h2 => J_pos h2 ?_) (fun h2 => J_neg h2 ?_)
    · refine J_mono (w_aload_n C (jd jdt_Mo_isFull 3 rfl) rfl) ?_
      refine J_mono (jg_Mo_69 C hp0 (jd jdt_Mo_isFull 4 rfl)) ?_
      refine J_mono (w_iload_n C (jd jdt_Mo_isFull 5 rfl) rfl) ?_
      refine J_bind (fun v3 hv3 => ?_)
      refine J_mono (w_iald C (jkf_12_28 hp0) hv3 (jd jdt_Mo_isFull 6 rfl)) ?_
      refine J_mono (w_iload_n C (jd jdt_Mo_isFull 7 rfl) rfl) ?_
      refine J_br (w_icmp_ne C (jd jdt_Mo_isFull 8 rfl) rfl) (fun h4 => J_pos h4 ?_) (fun h4 => J_neg h4 ?_)
      · refine J_mono (w_aload_n C (jd jdt_Mo_isFull 9 rfl) rfl) ?_
        refine J_mono (w_iconst_5 C (jd jdt_Mo_isFull 10 rfl)) ?_
        refine J_mono (w_iload_n C (jd jdt_Mo_isFull 11 rfl) rfl) ?_
        refine J_bind (fun q5 hq5 => ?_)
        refine J_mono (jc_Mo_248 C hp0 (C_Mo_fail l G F a0 5 a3 hp0 M hq5) rfl (Nat.le_trans (Nat.le_of_ble_eq_true rfl : 1 + 1 ≤ 2) hD) (jd jdt_Mo_isFull 12 rfl)) ?_
        exact J_some (fun hx => Wk_sb hx ⟨rfl, trivial⟩)
      · exact J_some (fun hx => Wk_sb hx ⟨rfl, trivial⟩)
    · exact J_some (fun hx => Wk_sb hx ⟨rfl, trivial⟩)
  · refine J_mono (w_aload_n C (jd jdt_Mo_isFull 13 rfl) rfl) ?_
    refine J_mono (jg_Mo_218 C hp0 (jd jdt_Mo_isFull 14 rfl)) ?_
    refine J_br (w_if_eq (y := 0) C (jd jdt_Mo_isFull 15 rfl) rfl) (fun h6 => J_pos h6 ?_) (fun h6 => J_neg h6 ?_)
    · refine J_mono (w_iconst_0 C (jd jdt_Mo_isFull 18 rfl)) ?_
      exact J_some (fun hx => hR 0 q1 hx _ _ (jd jdt_Mo_isFull 19 rfl) rfl)
    · refine J_mono (w_iconst_1 C (jd jdt_Mo_isFull 16 rfl)) ?_
      refine J_mono (w_goto C (jd jdt_Mo_isFull 17 rfl) rfl) ?_
      exact J_some (fun hx => hR 1 q1 hx _ _ (jd jdt_Mo_isFull 19 rfl) rfl)
end
theorem C_Mo_isFull (l : Launch) (G : JG) (F : jF G = false) (a0 : Nat) (a1 : Int32) (a2 : Int32) (a3 : Int32) (hp0 : jkd a0 12) (M : SM) {q : (Int32 × SM)} (hf : f_Mo_isFull a0 a1 a2 a3 M = some q) : jMet l jy_Mo_isFull jb_Mo_isFull 4 (some FieldType.boolean) 2 0 0 G [.ref a0, .int a1, .int a2, .int a3] jN0 (jce G M) (some (.int q.1)) jN0 (jce G q.2) :=
  j_met jo_Mo_isFull (by decide) (Nat.le_of_ble_eq_true rfl) (fun p e s m args below meth c C hr hm => K_Mo_isFull C F (Nat.le_refl _) a0 a1 a2 a3 hp0 M (fun t => t = q) (fun v M' hX pc ls hd hn => by cases hX; exact w_iret C hr hn hd) _ hf rfl)
def f_Mo_isOwnHere (a0 : Nat) (M : SM) : Option (Int32 × SM) := (f_Mo_isHere a0 (jpf a0 10) M).bind fun q1 => (if q1.1 = 0 then ((f_Mo_isHere a0 (jpf a0 11) q1.2).bind fun q4 => if q4.1 = 0 then ((f_Mo_isHere a0 (jpf a0 12) q4.2).bind fun q6 => if q6.1 = 0 then ((f_Mo_isHere a0 (jpf a0 13) q6.2).bind fun q8 => if q8.1 = 0 then ((f_Mo_isHere a0 (jpf a0 14) q8.2).bind fun q10 => if q10.1 = 0 then ((f_Mo_isHere a0 (jpf a0 15) q10.2).bind fun q12 => if q12.1 = 0 then (some (0, q12.2)) else (some (1, q12.2))) else (some (1, q10.2))) else (some (1, q8.2))) else (some (1, q6.2))) else (some (1, q4.2))) else (some (1, q1.2)) : Option (Int32 × SM)).bind fun q2 => (if q2.1 = 0 then ((f_Mo_isHere a0 (jpf a0 16) q2.2).bind fun q16 => if q16.1 = 0 then ((f_Mo_isHere a0 (jpf a0 17) q16.2).bind fun q18 => if q18.1 = 0 then ((f_Mo_isHere a0 (jpf a0 18) q18.2).bind fun q20 => if q20.1 = 0 then ((f_Mo_isHere a0 (jpf a0 19) q20.2).bind fun q22 => if q22.1 = 0 then ((f_Mo_isHere a0 (jpf a0 20) q22.2).bind fun q24 => if q24.1 = 0 then ((f_Mo_isHere a0 (jpf a0 21) q24.2).bind fun q26 => if q26.1 = 0 then (some (0, q26.2)) else (some (1, q26.2))) else (some (1, q24.2))) else (some (1, q22.2))) else (some (1, q20.2))) else (some (1, q18.2))) else (some (1, q16.2))) else (some (1, q2.2)) : Option (Int32 × SM)).bind fun q14 => if q14.1 = 0 then ((f_Mo_isHere a0 (jpf a0 22) q14.2).bind fun q29 => if q29.1 = 0 then ((f_Mo_isHere a0 (jpf a0 23) q29.2).bind fun q31 => if q31.1 = 0 then ((f_Mo_isHere a0 (jpf a0 24) q31.2).bind fun q33 => if q33.1 = 0 then ((f_Mo_isHere a0 (jpf a0 25) q33.2).bind fun q35 => if q35.1 = 0 then ((f_Mo_isHere a0 (jpf a0 26) q35.2).bind fun q37 => if q37.1 = 0 then (some (0, q37.2)) else (some (1, q37.2))) else (some (1, q35.2))) else (some (1, q33.2))) else (some (1, q31.2))) else (some (1, q29.2))) else (some (1, q14.2))
section
variable {p : Program} {l : Launch} {e : Env} {R : Room} {s : State} {m : MethodId} {args : Array Value} {below : List Frame} {meth : Method} {c : Code} {G : JG} {D : Nat} {Q : State → Prop}
set_option maxHeartbeats 4000000 in
set_option maxRecDepth 20000 in
theorem K_Mo_isOwnHere (C : jCx p R s m args meth c G jb_Mo_isOwnHere 2 D "SluicePitModel") (F : jF G = false) (hD : 3 ≤ D) (a0 : Nat) (hp0 : jkd a0 12) (M : SM) (X : (Int32 × SM) → Prop) (hR : ∀ v M', X (v, M') → ∀ (pc : Nat) (ls : List (Option Value)), decode jb_Mo_isOwnHere pc = .ok (.ireturn, 1) → narrow FieldType.boolean (.int v) = .int v → Wk p l e R s m args below meth c G 2 Q 0 0 jN0 (jce G M') pc ls [.int v]) : J X (f_Mo_isOwnHere a0 M) (Wk p l e R s m args below meth c G 2 Q 0 0 jN0 (jce G M) 0 [some (.ref a0), none] []) := by
  unfold f_Mo_isOwnHere
  refine J_mono (w_aload_n C (jd jdt_Mo_isOwnHere 0 rfl) rfl) ?_
  refine J_mono (w_aload_n C (jd jdt_Mo_isOwnHere 1 rfl) rfl) ?_
  refine J_mono (jg_Mo_17 C hp0 (jd jdt_Mo_isOwnHere 2 rfl)) ?_
  refine J_bind (fun q1 hq1 => ?_)
  refine J_mono (jc_Mo_241 C hp0 (C_Mo_isHere l G F a0 (jpf a0 10) hp0 (jkf_12_10 hp0) M hq1) rfl (Nat.le_trans (Nat.le_of_ble_eq_true rfl : 2 + 1 ≤ 3) hD) (jd jdt_Mo_isOwnHere 3 rfl)) ?_
  refine J_seq (fun (q2 : Int32 × SM) => Wk p l e R s m args below meth c G 2 Q 0 0 jN0 (jce G q2.2) 71 [some (.ref a0), none] [.int q2.1]) ?_ (fun q2 hq2 => ?_)
  · refine J_br (w_if_ne (y := 0) C (jd jdt_Mo_isOwnHere 4 rfl) rfl) (fun h3 => J_pos h3 ?_) (fun h3 => J_neg h3 ?_)
    · refine J_mono (w_aload_n C (jd jdt_Mo_isOwnHere 5 rfl) rfl) ?_
      refine J_mono (w_aload_n C (jd jdt_Mo_isOwnHere 6 rfl) rfl) ?_
      refine J_mono (jg_Mo_21 C hp0 (jd jdt_Mo_isOwnHere 7 rfl)) ?_
      refine J_bind (fun q4 hq4 => ?_)
      refine J_mono (jc_Mo_241 C hp0 (C_Mo_isHere l G F a0 (jpf a0 11) hp0 (jkf_12_11 hp0) q1.2 hq4) rfl (Nat.le_trans (Nat.le_of_ble_eq_true rfl : 2 + 1 ≤ 3) hD) (jd jdt_Mo_isOwnHere 8 rfl)) ?_
      refine J_br (w_if_ne (y := 0) C (jd jdt_Mo_isOwnHere 9 rfl) rfl) (fun h5 => J_pos h5 ?_) (fun h5 => J_neg h5 ?_)
      · refine J_mono (w_aload_n C (jd jdt_Mo_isOwnHere 10 rfl) rfl) ?_
        refine J_mono (w_aload_n C (jd jdt_Mo_isOwnHere 11 rfl) rfl) ?_
        refine J_mono (jg_Mo_24 C hp0 (jd jdt_Mo_isOwnHere 12 rfl)) ?_
        refine J_bind (fun q6 hq6 => ?_)
        refine J_mono (jc_Mo_241 C hp0 (C_Mo_isHere l G F a0 (jpf a0 12) hp0 (jkf_12_12 hp0) q4.2 hq6) rfl (Nat.le_trans (Nat.le_of_ble_eq_true rfl : 2 + 1 ≤ 3) hD) (jd jdt_Mo_isOwnHere 13 rfl)) ?_
        refine J_br (w_if_ne (y := 0) C (jd jdt_Mo_isOwnHere 14 rfl) rfl) (fun h7 => J_pos h7 ?_) (fun h7 => J_neg h7 ?_)
        · refine J_mono (w_aload_n C (jd jdt_Mo_isOwnHere 15 rfl) rfl) ?_
          refine J_mono (w_aload_n C (jd jdt_Mo_isOwnHere 16 rfl) rfl) ?_
          refine J_mono (jg_Mo_27 C hp0 (jd jdt_Mo_isOwnHere 17 rfl)) ?_
          refine J_bind (fun q8 hq8 => ?_)
          refine J_mono (jc_Mo_241 C hp0 (C_Mo_isHere l G F a0 (jpf a0 13) hp0 (jkf_12_13 hp0) q6.2 hq8) rfl (Nat.le_trans (Nat.le_of_ble_eq_true rfl : 2 + 1 ≤ 3) hD) (jd jdt_Mo_isOwnHere 18 rfl)) ?_
          refine J_br (w_if_ne (y := 0) C (jd jdt_Mo_isOwnHere 19 rfl) rfl) (fun h9 => J_pos h9 ?_) (fun h9 => J_neg h9 ?_)
          · refine J_mono (w_aload_n C (jd jdt_Mo_isOwnHere 20 rfl) rfl) ?_
            refine J_mono (w_aload_n C (jd jdt_Mo_isOwnHere 21 rfl) rfl) ?_
            refine J_mono (jg_Mo_30 C hp0 (jd jdt_Mo_isOwnHere 22 rfl)) ?_
            refine J_bind (fun q10 hq10 => ?_)
            refine J_mono (jc_Mo_241 C hp0 (C_Mo_isHere l G F a0 (jpf a0 14) hp0 (jkf_12_14 hp0) q8.2 hq10) rfl (Nat.le_trans (Nat.le_of_ble_eq_true rfl : 2 + 1 ≤ 3) hD) (jd jdt_Mo_isOwnHere 23 rfl)) ?_
            refine J_br (w_if_ne (y := 0) C (jd jdt_Mo_isOwnHere 24 rfl) rfl) (fun h11 => J_pos h11 ?_) (fun h11 => J_neg h11 ?_)
            · refine J_mono (w_aload_n C (jd jdt_Mo_isOwnHere 25 rfl) rfl) ?_
              refine J_mono (w_aload_n C (jd jdt_Mo_isOwnHere 26 rfl) rfl) ?_
              refine J_mono (jg_Mo_33 C hp0 (jd jdt_Mo_isOwnHere 27 rfl)) ?_
              refine J_bind (fun q12 hq12 => ?_)
              refine J_mono (jc_Mo_241 C hp0 (C_Mo_isHere l G F a0 (jpf a0 15) hp0 (jkf_12_15 hp0) q10.2 hq12) rfl (Nat.le_trans (Nat.le_of_ble_eq_true rfl : 2 + 1 ≤ 3) hD) (jd jdt_Mo_isOwnHere 28 rfl)) ?_
              refine J_br (w_if_eq (y := 0) C (jd jdt_Mo_isOwnHere 29 rfl) rfl) (fun h13 => J_pos h13 ?_) (fun h13 => J_neg h13 ?_)
              · refine J_mono (w_iconst_0 C (jd jdt_Mo_isOwnHere 32 rfl)) ?_
                exact J_some (fun hx => Wk_sb hx ⟨rfl, trivial⟩)
              · refine J_mono (w_iconst_1 C (jd jdt_Mo_isOwnHere 30 rfl)) ?_
                refine J_mono (w_goto C (jd jdt_Mo_isOwnHere 31 rfl) rfl) ?_
                exact J_some (fun hx => Wk_sb hx ⟨rfl, trivial⟩)
            · refine J_mono (w_iconst_1 C (jd jdt_Mo_isOwnHere 30 rfl)) ?_
              refine J_mono (w_goto C (jd jdt_Mo_isOwnHere 31 rfl) rfl) ?_
              exact J_some (fun hx => Wk_sb hx ⟨rfl, trivial⟩)
          · refine J_mono (w_iconst_1 C (jd jdt_Mo_isOwnHere 30 rfl)) ?_
            refine J_mono (w_goto C (jd jdt_Mo_isOwnHere 31 rfl) rfl) ?_
            exact J_some (fun hx => Wk_sb hx ⟨rfl, trivial⟩)
        · refine J_mono (w_iconst_1 C (jd jdt_Mo_isOwnHere 30 rfl)) ?_
          refine J_mono (w_goto C (jd jdt_Mo_isOwnHere 31 rfl) rfl) ?_
          exact J_some (fun hx => Wk_sb hx ⟨rfl, trivial⟩)
      · refine J_mono (w_iconst_1 C (jd jdt_Mo_isOwnHere 30 rfl)) ?_
        refine J_mono (w_goto C (jd jdt_Mo_isOwnHere 31 rfl) rfl) ?_
        exact J_some (fun hx => Wk_sb hx ⟨rfl, trivial⟩)
    · refine J_mono (w_iconst_1 C (jd jdt_Mo_isOwnHere 30 rfl)) ?_
      refine J_mono (w_goto C (jd jdt_Mo_isOwnHere 31 rfl) rfl) ?_
      exact J_some (fun hx => Wk_sb hx ⟨rfl, trivial⟩)
  · refine J_mono (w_istore_n (ls' := [some (.ref a0), some (.int q2.1)]) C (jd jdt_Mo_isOwnHere 33 rfl) (by decide) rfl rfl) ?_
    refine J_mono (w_iload_n C (jd jdt_Mo_isOwnHere 34 rfl) rfl) ?_
    refine J_seq (fun (q14 : Int32 × SM) => Wk p l e R s m args below meth c G 2 Q 0 0 jN0 (jce G q14.2) 147 [some (.ref a0), none] [.int q14.1]) ?_ (fun q14 hq14 => ?_)
    · refine J_br (w_if_ne (y := 0) C (jd jdt_Mo_isOwnHere 35 rfl) rfl) (fun h15 => J_pos h15 ?_) (fun h15 => J_neg h15 ?_)
      · refine J_mono (w_aload_n C (jd jdt_Mo_isOwnHere 36 rfl) rfl) ?_
        refine J_mono (w_aload_n C (jd jdt_Mo_isOwnHere 37 rfl) rfl) ?_
        refine J_mono (jg_Mo_36 C hp0 (jd jdt_Mo_isOwnHere 38 rfl)) ?_
        refine J_bind (fun q16 hq16 => ?_)
        refine J_mono (jc_Mo_241 C hp0 (C_Mo_isHere l G F a0 (jpf a0 16) hp0 (jkf_12_16 hp0) q2.2 hq16) rfl (Nat.le_trans (Nat.le_of_ble_eq_true rfl : 2 + 1 ≤ 3) hD) (jd jdt_Mo_isOwnHere 39 rfl)) ?_
        refine J_br (w_if_ne (y := 0) C (jd jdt_Mo_isOwnHere 40 rfl) rfl) (fun h17 => J_pos h17 ?_) (fun h17 => J_neg h17 ?_)
        · refine J_mono (w_aload_n C (jd jdt_Mo_isOwnHere 41 rfl) rfl) ?_
          refine J_mono (w_aload_n C (jd jdt_Mo_isOwnHere 42 rfl) rfl) ?_
          refine J_mono (jg_Mo_39 C hp0 (jd jdt_Mo_isOwnHere 43 rfl)) ?_
          refine J_bind (fun q18 hq18 => ?_)
          refine J_mono (jc_Mo_241 C hp0 (C_Mo_isHere l G F a0 (jpf a0 17) hp0 (jkf_12_17 hp0) q16.2 hq18) rfl (Nat.le_trans (Nat.le_of_ble_eq_true rfl : 2 + 1 ≤ 3) hD) (jd jdt_Mo_isOwnHere 44 rfl)) ?_
          refine J_br (w_if_ne (y := 0) C (jd jdt_Mo_isOwnHere 45 rfl) rfl) (fun h19 => J_pos h19 ?_) (fun h19 => J_neg h19 ?_)
          · refine J_mono (w_aload_n C (jd jdt_Mo_isOwnHere 46 rfl) rfl) ?_
            refine J_mono (w_aload_n C (jd jdt_Mo_isOwnHere 47 rfl) rfl) ?_
            refine J_mono (jg_Mo_42 C hp0 (jd jdt_Mo_isOwnHere 48 rfl)) ?_
            refine J_bind (fun q20 hq20 => ?_)
            refine J_mono (jc_Mo_241 C hp0 (C_Mo_isHere l G F a0 (jpf a0 18) hp0 (jkf_12_18 hp0) q18.2 hq20) rfl (Nat.le_trans (Nat.le_of_ble_eq_true rfl : 2 + 1 ≤ 3) hD) (jd jdt_Mo_isOwnHere 49 rfl)) ?_
            refine J_br (w_if_ne (y := 0) C (jd jdt_Mo_isOwnHere 50 rfl) rfl) (fun h21 => J_pos h21 ?_) (fun h21 => J_neg h21 ?_)
            · refine J_mono (w_aload_n C (jd jdt_Mo_isOwnHere 51 rfl) rfl) ?_
              refine J_mono (w_aload_n C (jd jdt_Mo_isOwnHere 52 rfl) rfl) ?_
              refine J_mono (jg_Mo_45 C hp0 (jd jdt_Mo_isOwnHere 53 rfl)) ?_
              refine J_bind (fun q22 hq22 => ?_)
              refine J_mono (jc_Mo_241 C hp0 (C_Mo_isHere l G F a0 (jpf a0 19) hp0 (jkf_12_19 hp0) q20.2 hq22) rfl (Nat.le_trans (Nat.le_of_ble_eq_true rfl : 2 + 1 ≤ 3) hD) (jd jdt_Mo_isOwnHere 54 rfl)) ?_
              refine J_br (w_if_ne (y := 0) C (jd jdt_Mo_isOwnHere 55 rfl) rfl) (fun h23 => J_pos h23 ?_) (fun h23 => J_neg h23 ?_)
              · refine J_mono (w_aload_n C (jd jdt_Mo_isOwnHere 56 rfl) rfl) ?_
                refine J_mono (w_aload_n C (jd jdt_Mo_isOwnHere 57 rfl) rfl) ?_
                refine J_mono (jg_Mo_48 C hp0 (jd jdt_Mo_isOwnHere 58 rfl)) ?_
                refine J_bind (fun q24 hq24 => ?_)
                refine J_mono (jc_Mo_241 C hp0 (C_Mo_isHere l G F a0 (jpf a0 20) hp0 (jkf_12_20 hp0) q22.2 hq24) rfl (Nat.le_trans (Nat.le_of_ble_eq_true rfl : 2 + 1 ≤ 3) hD) (jd jdt_Mo_isOwnHere 59 rfl)) ?_
                refine J_br (w_if_ne (y := 0) C (jd jdt_Mo_isOwnHere 60 rfl) rfl) (fun h25 => J_pos h25 ?_) (fun h25 => J_neg h25 ?_)
                · refine J_mono (w_aload_n C (jd jdt_Mo_isOwnHere 61 rfl) rfl) ?_
                  refine J_mono (w_aload_n C (jd jdt_Mo_isOwnHere 62 rfl) rfl) ?_
                  refine J_mono (jg_Mo_51 C hp0 (jd jdt_Mo_isOwnHere 63 rfl)) ?_
                  refine J_bind (fun q26 hq26 => ?_)
                  refine J_mono (jc_Mo_241 C hp0 (C_Mo_isHere l G F a0 (jpf a0 21) hp0 (jkf_12_21 hp0) q24.2 hq26) rfl (Nat.le_trans (Nat.le_of_ble_eq_true rfl : 2 + 1 ≤ 3) hD) (jd jdt_Mo_isOwnHere 64 rfl)) ?_
                  refine J_br (w_if_eq (y := 0) C (jd jdt_Mo_isOwnHere 65 rfl) rfl) (fun h27 => J_pos h27 ?_) (fun h27 => J_neg h27 ?_)
                  · refine J_mono (w_iconst_0 C (jd jdt_Mo_isOwnHere 68 rfl)) ?_
                    exact J_some (fun hx => Wk_sb hx ⟨rfl, trivial⟩)
                  · refine J_mono (w_iconst_1 C (jd jdt_Mo_isOwnHere 66 rfl)) ?_
                    refine J_mono (w_goto C (jd jdt_Mo_isOwnHere 67 rfl) rfl) ?_
                    exact J_some (fun hx => Wk_sb hx ⟨rfl, trivial⟩)
                · refine J_mono (w_iconst_1 C (jd jdt_Mo_isOwnHere 66 rfl)) ?_
                  refine J_mono (w_goto C (jd jdt_Mo_isOwnHere 67 rfl) rfl) ?_
                  exact J_some (fun hx => Wk_sb hx ⟨rfl, trivial⟩)
              · refine J_mono (w_iconst_1 C (jd jdt_Mo_isOwnHere 66 rfl)) ?_
                refine J_mono (w_goto C (jd jdt_Mo_isOwnHere 67 rfl) rfl) ?_
                exact J_some (fun hx => Wk_sb hx ⟨rfl, trivial⟩)
            · refine J_mono (w_iconst_1 C (jd jdt_Mo_isOwnHere 66 rfl)) ?_
              refine J_mono (w_goto C (jd jdt_Mo_isOwnHere 67 rfl) rfl) ?_
              exact J_some (fun hx => Wk_sb hx ⟨rfl, trivial⟩)
          · refine J_mono (w_iconst_1 C (jd jdt_Mo_isOwnHere 66 rfl)) ?_
            refine J_mono (w_goto C (jd jdt_Mo_isOwnHere 67 rfl) rfl) ?_
            exact J_some (fun hx => Wk_sb hx ⟨rfl, trivial⟩)
        · refine J_mono (w_iconst_1 C (jd jdt_Mo_isOwnHere 66 rfl)) ?_
          refine J_mono (w_goto C (jd jdt_Mo_isOwnHere 67 rfl) rfl) ?_
          exact J_some (fun hx => Wk_sb hx ⟨rfl, trivial⟩)
      · refine J_mono (w_iconst_1 C (jd jdt_Mo_isOwnHere 66 rfl)) ?_
        refine J_mono (w_goto C (jd jdt_Mo_isOwnHere 67 rfl) rfl) ?_
        exact J_some (fun hx => Wk_sb hx ⟨rfl, trivial⟩)
    · refine J_mono (w_istore_n (ls' := [some (.ref a0), some (.int q14.1)]) C (jd jdt_Mo_isOwnHere 69 rfl) (by decide) rfl rfl) ?_
      refine J_mono (w_iload_n C (jd jdt_Mo_isOwnHere 70 rfl) rfl) ?_
      refine J_br (w_if_ne (y := 0) C (jd jdt_Mo_isOwnHere 71 rfl) rfl) (fun h28 => J_pos h28 ?_) (fun h28 => J_neg h28 ?_)
      · refine J_mono (w_aload_n C (jd jdt_Mo_isOwnHere 72 rfl) rfl) ?_
        refine J_mono (w_aload_n C (jd jdt_Mo_isOwnHere 73 rfl) rfl) ?_
        refine J_mono (jg_Mo_54 C hp0 (jd jdt_Mo_isOwnHere 74 rfl)) ?_
        refine J_bind (fun q29 hq29 => ?_)
        refine J_mono (jc_Mo_241 C hp0 (C_Mo_isHere l G F a0 (jpf a0 22) hp0 (jkf_12_22 hp0) q14.2 hq29) rfl (Nat.le_trans (Nat.le_of_ble_eq_true rfl : 2 + 1 ≤ 3) hD) (jd jdt_Mo_isOwnHere 75 rfl)) ?_
        refine J_br (w_if_ne (y := 0) C (jd jdt_Mo_isOwnHere 76 rfl) rfl) (fun h30 => J_pos h30 ?_) (fun h30 => J_neg h30 ?_)
        · refine J_mono (w_aload_n C (jd jdt_Mo_isOwnHere 77 rfl) rfl) ?_
          refine J_mono (w_aload_n C (jd jdt_Mo_isOwnHere 78 rfl) rfl) ?_
          refine J_mono (jg_Mo_57 C hp0 (jd jdt_Mo_isOwnHere 79 rfl)) ?_
          refine J_bind (fun q31 hq31 => ?_)
          refine J_mono (jc_Mo_241 C hp0 (C_Mo_isHere l G F a0 (jpf a0 23) hp0 (jkf_12_23 hp0) q29.2 hq31) rfl (Nat.le_trans (Nat.le_of_ble_eq_true rfl : 2 + 1 ≤ 3) hD) (jd jdt_Mo_isOwnHere 80 rfl)) ?_
          refine J_br (w_if_ne (y := 0) C (jd jdt_Mo_isOwnHere 81 rfl) rfl) (fun h32 => J_pos h32 ?_) (fun h32 => J_neg h32 ?_)
          · refine J_mono (w_aload_n C (jd jdt_Mo_isOwnHere 82 rfl) rfl) ?_
            refine J_mono (w_aload_n C (jd jdt_Mo_isOwnHere 83 rfl) rfl) ?_
            refine J_mono (jg_Mo_60 C hp0 (jd jdt_Mo_isOwnHere 84 rfl)) ?_
            refine J_bind (fun q33 hq33 => ?_)
            refine J_mono (jc_Mo_241 C hp0 (C_Mo_isHere l G F a0 (jpf a0 24) hp0 (jkf_12_24 hp0) q31.2 hq33) rfl (Nat.le_trans (Nat.le_of_ble_eq_true rfl : 2 + 1 ≤ 3) hD) (jd jdt_Mo_isOwnHere 85 rfl)) ?_
            refine J_br (w_if_ne (y := 0) C (jd jdt_Mo_isOwnHere 86 rfl) rfl) (fun h34 => J_pos h34 ?_) (fun h34 => J_neg h34 ?_)
            · refine J_mono (w_aload_n C (jd jdt_Mo_isOwnHere 87 rfl) rfl) ?_
              refine J_mono (w_aload_n C (jd jdt_Mo_isOwnHere 88 rfl) rfl) ?_
              refine J_mono (jg_Mo_63 C hp0 (jd jdt_Mo_isOwnHere 89 rfl)) ?_
              refine J_bind (fun q35 hq35 => ?_)
              refine J_mono (jc_Mo_241 C hp0 (C_Mo_isHere l G F a0 (jpf a0 25) hp0 (jkf_12_25 hp0) q33.2 hq35) rfl (Nat.le_trans (Nat.le_of_ble_eq_true rfl : 2 + 1 ≤ 3) hD) (jd jdt_Mo_isOwnHere 90 rfl)) ?_
              refine J_br (w_if_ne (y := 0) C (jd jdt_Mo_isOwnHere 91 rfl) rfl) (fun h36 => J_pos h36 ?_) (fun h36 => J_neg h36 ?_)
              · refine J_mono (w_aload_n C (jd jdt_Mo_isOwnHere 92 rfl) rfl) ?_
                refine J_mono (w_aload_n C (jd jdt_Mo_isOwnHere 93 rfl) rfl) ?_
                refine J_mono (jg_Mo_66 C hp0 (jd jdt_Mo_isOwnHere 94 rfl)) ?_
                refine J_bind (fun q37 hq37 => ?_)
                refine J_mono (jc_Mo_241 C hp0 (C_Mo_isHere l G F a0 (jpf a0 26) hp0 (jkf_12_26 hp0) q35.2 hq37) rfl (Nat.le_trans (Nat.le_of_ble_eq_true rfl : 2 + 1 ≤ 3) hD) (jd jdt_Mo_isOwnHere 95 rfl)) ?_
                refine J_br (w_if_eq (y := 0) C (jd jdt_Mo_isOwnHere 96 rfl) rfl) (fun h38 => J_pos h38 ?_) (fun h38 => J_neg h38 ?_)
                · refine J_mono (w_iconst_0 C (jd jdt_Mo_isOwnHere 99 rfl)) ?_
                  refine J_mono (w_istore_n (ls' := [some (.ref a0), some (.int 0)]) C (jd jdt_Mo_isOwnHere 100 rfl) (by decide) rfl rfl) ?_
                  refine J_mono (w_iload_n C (jd jdt_Mo_isOwnHere 101 rfl) rfl) ?_
                  exact J_some (fun hx => hR 0 q37.2 hx _ _ (jd jdt_Mo_isOwnHere 102 rfl) rfl)
                · refine J_mono (w_iconst_1 C (jd jdt_Mo_isOwnHere 97 rfl)) ?_
                  refine J_mono (w_goto C (jd jdt_Mo_isOwnHere 98 rfl) rfl) ?_
                  refine J_mono (w_istore_n (ls' := [some (.ref a0), some (.int 1)]) C (jd jdt_Mo_isOwnHere 100 rfl) (by decide) rfl rfl) ?_
                  refine J_mono (w_iload_n C (jd jdt_Mo_isOwnHere 101 rfl) rfl) ?_
                  exact J_some (fun hx => hR 1 q37.2 hx _ _ (jd jdt_Mo_isOwnHere 102 rfl) rfl)
              · refine J_mono (w_iconst_1 C (jd jdt_Mo_isOwnHere 97 rfl)) ?_
                refine J_mono (w_goto C (jd jdt_Mo_isOwnHere 98 rfl) rfl) ?_
                refine J_mono (w_istore_n (ls' := [some (.ref a0), some (.int 1)]) C (jd jdt_Mo_isOwnHere 100 rfl) (by decide) rfl rfl) ?_
                refine J_mono (w_iload_n C (jd jdt_Mo_isOwnHere 101 rfl) rfl) ?_
                exact J_some (fun hx => hR 1 q35.2 hx _ _ (jd jdt_Mo_isOwnHere 102 rfl) rfl)
            · refine J_mono (w_iconst_1 C (jd jdt_Mo_isOwnHere 97 rfl)) ?_
              refine J_mono (w_goto C (jd jdt_Mo_isOwnHere 98 rfl) rfl) ?_
              refine J_mono (w_istore_n (ls' := [some (.ref a0), some (.int 1)]) C (jd jdt_Mo_isOwnHere 100 rfl) (by decide) rfl rfl) ?_
              refine J_mono (w_iload_n C (jd jdt_Mo_isOwnHere 101 rfl) rfl) ?_
              exact J_some (fun hx => hR 1 q33.2 hx _ _ (jd jdt_Mo_isOwnHere 102 rfl) rfl)
          · refine J_mono (w_iconst_1 C (jd jdt_Mo_isOwnHere 97 rfl)) ?_
            refine J_mono (w_goto C (jd jdt_Mo_isOwnHere 98 rfl) rfl) ?_
            refine J_mono (w_istore_n (ls' := [some (.ref a0), some (.int 1)]) C (jd jdt_Mo_isOwnHere 100 rfl) (by decide) rfl rfl) ?_
            refine J_mono (w_iload_n C (jd jdt_Mo_isOwnHere 101 rfl) rfl) ?_
            exact J_some (fun hx => hR 1 q31.2 hx _ _ (jd jdt_Mo_isOwnHere 102 rfl) rfl)
        · refine J_mono (w_iconst_1 C (jd jdt_Mo_isOwnHere 97 rfl)) ?_
          refine J_mono (w_goto C (jd jdt_Mo_isOwnHere 98 rfl) rfl) ?_
          refine J_mono (w_istore_n (ls' := [some (.ref a0), some (.int 1)]) C (jd jdt_Mo_isOwnHere 100 rfl) (by decide) rfl rfl) ?_
          refine J_mono (w_iload_n C (jd jdt_Mo_isOwnHere 101 rfl) rfl) ?_
          exact J_some (fun hx => hR 1 q29.2 hx _ _ (jd jdt_Mo_isOwnHere 102 rfl) rfl)
      · refine J_mono (w_iconst_1 C (jd jdt_Mo_isOwnHere 97 rfl)) ?_
        refine J_mono (w_goto C (jd jdt_Mo_isOwnHere 98 rfl) rfl) ?_
        refine J_mono (w_istore_n (ls' := [some (.ref a0), some (.int 1)]) C (jd jdt_Mo_isOwnHere 100 rfl) (by decide) rfl rfl) ?_
        refine J_mono (w_iload_n C (jd jdt_Mo_isOwnHere 101 rfl) rfl) ?_
        exact J_some (fun hx => hR 1 q14.2 hx _ _ (jd jdt_Mo_isOwnHere 102 rfl) rfl)
end
theorem C_Mo_isOwnHere (l : Launch) (G : JG) (F : jF G = false) (a0 : Nat) (hp0 : jkd a0 12) (M : SM) {q : (Int32 × SM)} (hf : f_Mo_isOwnHere a0 M = some q) : jMet l jy_Mo_isOwnHere jb_Mo_isOwnHere 2 (some FieldType.boolean) 3 0 0 G [.ref a0] jN0 (jce G M) (some (.int q.1)) jN0 (jce G q.2) :=
  j_met jo_Mo_isOwnHere (by decide) (Nat.le_of_ble_eq_true rfl) (fun p e s m args below meth c C hr hm => K_Mo_isOwnHere C F (Nat.le_refl _) a0 hp0 M (fun t => t = q) (fun v M' hX pc ls hd hn => by cases hX; exact w_iret C hr hn hd) _ hf rfl)
def lp_Mo_name_58 (y0 : Nat) : Nat → Int64 → SM → Option ((Int64 × SM) ⊕ (Int64 × SM))
  | 0, _, _ => none
  | n + 1, x1, M => if (M.1 y0 2) < (M.1 y0 3) then ((aI M (jpf y0 0) (M.1 y0 2)).bind fun v11 => (f_Mo_isLetter v11).bind fun q12 => if q12 = 0 then (some (.inl (x1, M))) else (if ((M.1 y0 2) - (M.1 y0 27)) = 6 then ((f_Mo_fail y0 1 (M.1 y0 2) M).bind fun q15 => some (.inr (0, q15))) else ((aI M (jpf y0 0) (M.1 y0 2)).bind fun v16 => lp_Mo_name_58 y0 n ((((27 * x1) + v16.toInt64) - 97) + 1) (sI M y0 2 ((M.1 y0 2) + 1))))) else (some (.inl (x1, M)))
def f_Mo_name (a0 : Nat) (M : SM) : Option (Int64 × SM) := if (M.1 a0 5) = 0 then ((f_Mo_look a0 M).bind fun q2 => (f_Mo_isLetter q2.1).bind fun q3 => if q3 = 0 then ((f_Mo_fail a0 1 (q2.2.1 a0 2) q2.2).bind fun q5 => some (0, q5)) else (if (q2.2.1 a0 2) = (q2.2.1 a0 4) then ((f_Mo_fail a0 1 (q2.2.1 a0 2) q2.2).bind fun q7 => some (0, q7)) else ((f_Mo_isOwnHere a0 q2.2).bind fun q8 => if q8.1 = 0 then (jsb (lp_Mo_name_58 a0 jfuel 0 (sI q8.2 a0 27 (q8.2.1 a0 2))) id fun q17 => some (q17.1, sI q17.2 a0 4 (q17.2.1 a0 2))) else ((f_Mo_fail a0 1 (q8.2.1 a0 2) q8.2).bind fun q18 => some (0, q18))))) else (some (0, M))
section
variable {p : Program} {l : Launch} {e : Env} {R : Room} {s : State} {m : MethodId} {args : Array Value} {below : List Frame} {meth : Method} {c : Code} {G : JG} {D : Nat} {Q : State → Prop}
set_option maxHeartbeats 4000000 in
set_option maxRecDepth 20000 in
theorem K_Mo_name (C : jCx p R s m args meth c G jb_Mo_name 3 D "SluicePitModel") (F : jF G = false) (hD : 4 ≤ D) (a0 : Nat) (hp0 : jkd a0 12) (M : SM) (X : (Int64 × SM) → Prop) (hR : ∀ v M', X (v, M') → ∀ (pc : Nat) (ls : List (Option Value)), decode jb_Mo_name pc = .ok (.lreturn, 1) → Wk p l e R s m args below meth c G 3 Q 0 0 jN0 (jce G M') pc ls [.long v]) : J X (f_Mo_name a0 M) (Wk p l e R s m args below meth c G 3 Q 0 0 jN0 (jce G M) 0 [some (.ref a0), none, none] []) := by
  unfold f_Mo_name
  refine J_mono (w_aload_n C (jd jdt_Mo_name 0 rfl) rfl) ?_
  refine J_mono (jg_Mo_218 C hp0 (jd jdt_Mo_name 1 rfl)) ?_
  refine J_br (w_if_eq (y := 0) C (jd jdt_Mo_name 2 rfl) rfl) (fun h1 => J_pos h1 ?_) (fun h1 => J_neg h1 ?_)
  · refine J_mono (w_aload_n C (jd jdt_Mo_name 5 rfl) rfl) ?_
    refine J_bind (fun q2 hq2 => ?_)
    refine J_mono (jc_Mo_230 C hp0 (C_Mo_look l G F a0 hp0 M hq2) rfl (Nat.le_trans (Nat.le_of_ble_eq_true rfl : 1 + 1 ≤ 4) hD) (jd jdt_Mo_name 6 rfl)) ?_
    refine J_bind (fun q3 hq3 => ?_)
    refine J_mono (jc_Mo_234 C (C_Mo_isLetter l G F q2.1 q2.2 hq3) rfl (Nat.le_trans (Nat.le_of_ble_eq_true rfl : 1 + 1 ≤ 4) hD) (jd jdt_Mo_name 7 rfl)) ?_
    refine J_br (w_if_eq (y := 0) C (jd jdt_Mo_name 8 rfl) rfl) (fun h4 => J_pos h4 ?_) (fun h4 => J_neg h4 ?_)
    · refine J_mono (w_aload_n C (jd jdt_Mo_name 17 rfl) rfl) ?_
      refine J_mono (w_iconst_1 C (jd jdt_Mo_name 18 rfl)) ?_
      refine J_mono (w_aload_n C (jd jdt_Mo_name 19 rfl) rfl) ?_
      refine J_mono (jg_Mo_224 C hp0 (jd jdt_Mo_name 20 rfl)) ?_
      refine J_bind (fun q5 hq5 => ?_)
      refine J_mono (jc_Mo_248 C hp0 (C_Mo_fail l G F a0 1 (q2.2.1 a0 2) hp0 q2.2 hq5) rfl (Nat.le_trans (Nat.le_of_ble_eq_true rfl : 1 + 1 ≤ 4) hD) (jd jdt_Mo_name 21 rfl)) ?_
      refine J_mono (w_lconst_0 C (jd jdt_Mo_name 22 rfl)) ?_
      exact J_some (fun hx => hR 0 q5 hx _ _ (jd jdt_Mo_name 23 rfl) )
    · refine J_mono (w_aload_n C (jd jdt_Mo_name 9 rfl) rfl) ?_
      refine J_mono (jg_Mo_224 C hp0 (jd jdt_Mo_name 10 rfl)) ?_
      refine J_mono (w_aload_n C (jd jdt_Mo_name 11 rfl) rfl) ?_
      refine J_mono (jg_Mo_238 C hp0 (jd jdt_Mo_name 12 rfl)) ?_
      refine J_br (w_icmp_eq C (jd jdt_Mo_name 13 rfl) rfl) (fun h6 => J_pos h6 ?_) (fun h6 => J_neg h6 ?_)
      · refine J_mono (w_aload_n C (jd jdt_Mo_name 17 rfl) rfl) ?_
        refine J_mono (w_iconst_1 C (jd jdt_Mo_name 18 rfl)) ?_
        refine J_mono (w_aload_n C (jd jdt_Mo_name 19 rfl) rfl) ?_
        refine J_mono (jg_Mo_224 C hp0 (jd jdt_Mo_name 20 rfl)) ?_
        refine J_bind (fun q7 hq7 => ?_)
        refine J_mono (jc_Mo_248 C hp0 (C_Mo_fail l G F a0 1 (q2.2.1 a0 2) hp0 q2.2 hq7) rfl (Nat.le_trans (Nat.le_of_ble_eq_true rfl : 1 + 1 ≤ 4) hD) (jd jdt_Mo_name 21 rfl)) ?_
        refine J_mono (w_lconst_0 C (jd jdt_Mo_name 22 rfl)) ?_
        exact J_some (fun hx => hR 0 q7 hx _ _ (jd jdt_Mo_name 23 rfl) )
      · refine J_mono (w_aload_n C (jd jdt_Mo_name 14 rfl) rfl) ?_
        refine J_bind (fun q8 hq8 => ?_)
        refine J_mono (jc_Mo_265 C hp0 (C_Mo_isOwnHere l G F a0 hp0 q2.2 hq8) rfl (Nat.le_trans (Nat.le_of_ble_eq_true rfl : 3 + 1 ≤ 4) hD) (jd jdt_Mo_name 15 rfl)) ?_
        refine J_br (w_if_eq (y := 0) C (jd jdt_Mo_name 16 rfl) rfl) (fun h9 => J_pos h9 ?_) (fun h9 => J_neg h9 ?_)
        · refine J_mono (w_aload_n C (jd jdt_Mo_name 24 rfl) rfl) ?_
          refine J_mono (w_aload_n C (jd jdt_Mo_name 25 rfl) rfl) ?_
          refine J_mono (jg_Mo_224 C hp0 (jd jdt_Mo_name 26 rfl)) ?_
          refine J_mono (jp_Mo_269 C F hp0 (jd jdt_Mo_name 27 rfl)) ?_
          refine J_mono (w_lconst_0 C (jd jdt_Mo_name 28 rfl)) ?_
          refine J_mono (w_lstore_n (ls' := [some (.ref a0), some (.long 0), none]) C (jd jdt_Mo_name 29 rfl) (by decide) rfl rfl) ?_
          have L58 : ∀ (y0 : Nat) (hy0 : jkd y0 12) (n : Nat) (x1 : Int64) (M : SM), J (Sum.elim (fun (q17 : Int64 × SM) => Wk p l e R s m args below meth c G 3 Q 0 0 jN0 (jce G q17.2) 145 [some (.ref y0), some (.long q17.1), none] []) X) (lp_Mo_name_58 y0 n x1 M) (Wk p l e R s m args below meth c G 3 Q 0 0 jN0 (jce G M) 58 [some (.ref y0), some (.long x1), none] []) := by
            intro y0 hy0 n
            induction n with
            | zero => intro x1 M; exact J_none
            | succ n ih =>
              intro x1 M
              unfold lp_Mo_name_58
              refine J_mono (w_aload_n C (jd jdt_Mo_name 30 rfl) rfl) ?_
              refine J_mono (jg_Mo_224 C hy0 (jd jdt_Mo_name 31 rfl)) ?_
              refine J_mono (w_aload_n C (jd jdt_Mo_name 32 rfl) rfl) ?_
              refine J_mono (jg_Mo_227 C hy0 (jd jdt_Mo_name 33 rfl)) ?_
              refine J_br (w_icmp_ge C (jd jdt_Mo_name 34 rfl) rfl) (fun h10 => J_pos h10 ?_) (fun h10 => J_neg h10 ?_)
              · refine J_mono (w_aload_n C (jd jdt_Mo_name 35 rfl) rfl) ?_
                refine J_mono (jg_Mo_7 C hy0 (jd jdt_Mo_name 36 rfl)) ?_
                refine J_mono (w_aload_n C (jd jdt_Mo_name 37 rfl) rfl) ?_
                refine J_mono (jg_Mo_224 C hy0 (jd jdt_Mo_name 38 rfl)) ?_
                refine J_bind (fun v11 hv11 => ?_)
                refine J_mono (w_iald C (jkf_12_0 hy0) hv11 (jd jdt_Mo_name 39 rfl)) ?_
                refine J_bind (fun q12 hq12 => ?_)
                refine J_mono (jc_Mo_234 C (C_Mo_isLetter l G F v11 M hq12) rfl (Nat.le_trans (Nat.le_of_ble_eq_true rfl : 1 + 1 ≤ 4) hD) (jd jdt_Mo_name 40 rfl)) ?_
                refine J_br (w_if_eq (y := 0) C (jd jdt_Mo_name 41 rfl) rfl) (fun h13 => J_pos h13 ?_) (fun h13 => J_neg h13 ?_)
                · exact J_some (fun hx => Wk_sb hx ⟨rfl, rfl, trivial⟩)
                · refine J_mono (w_aload_n C (jd jdt_Mo_name 42 rfl) rfl) ?_
                  refine J_mono (jg_Mo_224 C hy0 (jd jdt_Mo_name 43 rfl)) ?_
                  refine J_mono (w_aload_n C (jd jdt_Mo_name 44 rfl) rfl) ?_
                  refine J_mono (jg_Mo_269 C hy0 (jd jdt_Mo_name 45 rfl)) ?_
                  refine J_mono (w_isub C (jd jdt_Mo_name 46 rfl)) ?_
                  refine J_mono (w_bipush_6 C (jd jdt_Mo_name 47 rfl)) ?_
                  refine J_br (w_icmp_ne C (jd jdt_Mo_name 48 rfl) rfl) (fun h14 => J_pos h14 ?_) (fun h14 => J_neg h14 ?_)
                  · refine J_mono (w_aload_n C (jd jdt_Mo_name 49 rfl) rfl) ?_
                    refine J_mono (w_iconst_1 C (jd jdt_Mo_name 50 rfl)) ?_
                    refine J_mono (w_aload_n C (jd jdt_Mo_name 51 rfl) rfl) ?_
                    refine J_mono (jg_Mo_224 C hy0 (jd jdt_Mo_name 52 rfl)) ?_
                    refine J_bind (fun q15 hq15 => ?_)
                    refine J_mono (jc_Mo_248 C hy0 (C_Mo_fail l G F y0 1 (M.1 y0 2) hy0 M hq15) rfl (Nat.le_trans (Nat.le_of_ble_eq_true rfl : 1 + 1 ≤ 4) hD) (jd jdt_Mo_name 53 rfl)) ?_
                    refine J_mono (w_lconst_0 C (jd jdt_Mo_name 54 rfl)) ?_
                    exact J_some (fun hx => hR 0 q15 hx _ _ (jd jdt_Mo_name 55 rfl))
                  · refine J_mono (w_ldc2 C (jd jdt_Mo_name 56 rfl) jw_1559) ?_
                    refine J_mono (w_lload_n C (jd jdt_Mo_name 57 rfl) rfl) ?_
                    refine J_mono (w_lmul C (jd jdt_Mo_name 58 rfl)) ?_
                    refine J_mono (w_aload_n C (jd jdt_Mo_name 59 rfl) rfl) ?_
                    refine J_mono (jg_Mo_7 C hy0 (jd jdt_Mo_name 60 rfl)) ?_
                    refine J_mono (w_aload_n C (jd jdt_Mo_name 61 rfl) rfl) ?_
                    refine J_mono (jg_Mo_224 C hy0 (jd jdt_Mo_name 62 rfl)) ?_
                    refine J_bind (fun v16 hv16 => ?_)
                    refine J_mono (w_iald C (jkf_12_0 hy0) hv16 (jd jdt_Mo_name 63 rfl)) ?_
                    refine J_mono (w_i2l C (jd jdt_Mo_name 64 rfl)) ?_
                    refine J_mono (w_ladd C (jd jdt_Mo_name 65 rfl)) ?_
                    refine J_mono (w_ldc2 C (jd jdt_Mo_name 66 rfl) jw_1560) ?_
                    refine J_mono (w_lsub C (jd jdt_Mo_name 67 rfl)) ?_
                    refine J_mono (w_lconst_1 C (jd jdt_Mo_name 68 rfl)) ?_
                    refine J_mono (w_ladd C (jd jdt_Mo_name 69 rfl)) ?_
                    refine J_mono (w_lstore_n (ls' := [some (.ref y0), some (.long ((((27 * x1) + v16.toInt64) - 97) + 1)), none]) C (jd jdt_Mo_name 70 rfl) (by decide) rfl rfl) ?_
                    refine J_mono (w_aload_n C (jd jdt_Mo_name 71 rfl) rfl) ?_
                    refine J_mono (w_dup_r C (jd jdt_Mo_name 72 rfl)) ?_
                    refine J_mono (jg_Mo_224 C hy0 (jd jdt_Mo_name 73 rfl)) ?_
                    refine J_mono (w_iconst_1 C (jd jdt_Mo_name 74 rfl)) ?_
                    refine J_mono (w_iadd C (jd jdt_Mo_name 75 rfl)) ?_
                    refine J_mono (jp_Mo_224 C F hy0 (jd jdt_Mo_name 76 rfl)) ?_
                    refine J_mono (w_goto C (jd jdt_Mo_name 77 rfl) rfl) ?_
                    exact J_sub (ih ((((27 * x1) + v16.toInt64) - 97) + 1) (sI M y0 2 ((M.1 y0 2) + 1))) ⟨rfl, rfl, trivial⟩
              · exact J_some (fun hx => Wk_sb hx ⟨rfl, rfl, trivial⟩)
          refine J_sb (fun (q17 : Int64 × SM) => Wk p l e R s m args below meth c G 3 Q 0 0 jN0 (jce G q17.2) 145 [some (.ref a0), some (.long q17.1), none] []) (J_sub (L58 a0 hp0 jfuel 0 (sI q8.2 a0 27 (q8.2.1 a0 2))) ⟨rfl, rfl, trivial⟩) (fun q17 => ?_)
          refine J_mono (w_aload_n C (jd jdt_Mo_name 78 rfl) rfl) ?_
          refine J_mono (w_aload_n C (jd jdt_Mo_name 79 rfl) rfl) ?_
          refine J_mono (jg_Mo_224 C hp0 (jd jdt_Mo_name 80 rfl)) ?_
          refine J_mono (jp_Mo_238 C F hp0 (jd jdt_Mo_name 81 rfl)) ?_
          refine J_mono (w_lload_n C (jd jdt_Mo_name 82 rfl) rfl) ?_
          exact J_some (fun hx => hR q17.1 (sI q17.2 a0 4 (q17.2.1 a0 2)) hx _ _ (jd jdt_Mo_name 83 rfl) )
        · refine J_mono (w_aload_n C (jd jdt_Mo_name 17 rfl) rfl) ?_
          refine J_mono (w_iconst_1 C (jd jdt_Mo_name 18 rfl)) ?_
          refine J_mono (w_aload_n C (jd jdt_Mo_name 19 rfl) rfl) ?_
          refine J_mono (jg_Mo_224 C hp0 (jd jdt_Mo_name 20 rfl)) ?_
          refine J_bind (fun q18 hq18 => ?_)
          refine J_mono (jc_Mo_248 C hp0 (C_Mo_fail l G F a0 1 (q8.2.1 a0 2) hp0 q8.2 hq18) rfl (Nat.le_trans (Nat.le_of_ble_eq_true rfl : 1 + 1 ≤ 4) hD) (jd jdt_Mo_name 21 rfl)) ?_
          refine J_mono (w_lconst_0 C (jd jdt_Mo_name 22 rfl)) ?_
          exact J_some (fun hx => hR 0 q18 hx _ _ (jd jdt_Mo_name 23 rfl) )
  · refine J_mono (w_lconst_0 C (jd jdt_Mo_name 3 rfl)) ?_
    exact J_some (fun hx => hR 0 M hx _ _ (jd jdt_Mo_name 4 rfl) )
end
theorem C_Mo_name (l : Launch) (G : JG) (F : jF G = false) (a0 : Nat) (hp0 : jkd a0 12) (M : SM) {q : (Int64 × SM)} (hf : f_Mo_name a0 M = some q) : jMet l jy_Mo_name jb_Mo_name 3 (some FieldType.long) 4 0 0 G [.ref a0] jN0 (jce G M) (some (.long q.1)) jN0 (jce G q.2) :=
  j_met jo_Mo_name (by decide) (Nat.le_of_ble_eq_true rfl) (fun p e s m args below meth c C hr hm => K_Mo_name C F (Nat.le_refl _) a0 hp0 M (fun t => t = q) (fun v M' hX pc ls hd => by cases hX; exact w_lret C hr hd) _ hf rfl)
def lp_Mo_newName_7 (y0 : Nat) (y1 : Int64) : Nat → Int32 → SM → Option (SM)
  | 0, _, _ => none
  | n + 1, x3, M => if x3 < 24 then ((if (M.1 y0 5) = 0 then ((aI M (jpf y0 28) (x3 / 8)).bind fun v5 => if (x3 - x3 / 8 * 8) < v5 then ((aL M (jpf y0 29) x3).bind fun v7 => if v7 = y1 then ((f_Mo_fail y0 3 (M.1 y0 27) M).bind fun q9 => some q9) else (some M)) else (some M)) else (some M) : Option (SM)).bind fun q3 => lp_Mo_newName_7 y0 y1 n (x3 + 1) q3) else (some M)
def f_Mo_newName (a0 : Nat) (M : SM) : Option (Int64 × SM) := (f_Mo_name a0 M).bind fun q1 => (lp_Mo_newName_7 a0 q1.1 jfuel 0 q1.2).bind fun q10 => some (q1.1, q10)
section
variable {p : Program} {l : Launch} {e : Env} {R : Room} {s : State} {m : MethodId} {args : Array Value} {below : List Frame} {meth : Method} {c : Code} {G : JG} {D : Nat} {Q : State → Prop}
set_option maxHeartbeats 4000000 in
set_option maxRecDepth 20000 in
theorem K_Mo_newName (C : jCx p R s m args meth c G jb_Mo_newName 4 D "SluicePitModel") (F : jF G = false) (hD : 5 ≤ D) (a0 : Nat) (hp0 : jkd a0 12) (M : SM) (X : (Int64 × SM) → Prop) (hR : ∀ v M', X (v, M') → ∀ (pc : Nat) (ls : List (Option Value)), decode jb_Mo_newName pc = .ok (.lreturn, 1) → Wk p l e R s m args below meth c G 4 Q 0 0 jN0 (jce G M') pc ls [.long v]) : J X (f_Mo_newName a0 M) (Wk p l e R s m args below meth c G 4 Q 0 0 jN0 (jce G M) 0 [some (.ref a0), none, none, none] []) := by
  unfold f_Mo_newName
  refine J_mono (w_aload_n C (jd jdt_Mo_newName 0 rfl) rfl) ?_
  refine J_bind (fun q1 hq1 => ?_)
  refine J_mono (jc_Mo_276 C hp0 (C_Mo_name l G F a0 hp0 M hq1) rfl (Nat.le_trans (Nat.le_of_ble_eq_true rfl : 4 + 1 ≤ 5) hD) (jd jdt_Mo_newName 1 rfl)) ?_
  refine J_mono (w_lstore_n (ls' := [some (.ref a0), some (.long q1.1), none, none]) C (jd jdt_Mo_newName 2 rfl) (by decide) rfl rfl) ?_
  refine J_mono (w_iconst_0 C (jd jdt_Mo_newName 3 rfl)) ?_
  refine J_mono (w_istore_n (ls' := [some (.ref a0), some (.long q1.1), none, some (.int 0)]) C (jd jdt_Mo_newName 4 rfl) (by decide) rfl rfl) ?_
  have L7 : ∀ (y0 : Nat) (y1 : Int64) (hy0 : jkd y0 12) (n : Nat) (x3 : Int32) (M : SM), J (fun (q10 : SM) => Wk p l e R s m args below meth c G 4 Q 0 0 jN0 (jce G q10) 62 [none, some (.long y1), none, none] []) (lp_Mo_newName_7 y0 y1 n x3 M) (Wk p l e R s m args below meth c G 4 Q 0 0 jN0 (jce G M) 7 [some (.ref y0), some (.long y1), none, some (.int x3)] []) := by
    intro y0 y1 hy0 n
    induction n with
    | zero => intro x3 M; exact J_none
    | succ n ih =>
      intro x3 M
      unfold lp_Mo_newName_7
      refine J_mono (w_iload_n C (jd jdt_Mo_newName 5 rfl) rfl) ?_
      refine J_mono (w_bipush_24 C (jd jdt_Mo_newName 6 rfl)) ?_
      refine J_br (w_icmp_ge C (jd jdt_Mo_newName 7 rfl) rfl) (fun h2 => J_pos h2 ?_) (fun h2 => J_neg h2 ?_)
      · refine J_mono (w_aload_n C (jd jdt_Mo_newName 8 rfl) rfl) ?_
        refine J_mono (jg_Mo_218 C hy0 (jd jdt_Mo_newName 9 rfl)) ?_
        refine J_seq (fun (q3 : SM) => Wk p l e R s m args below meth c G 4 Q 0 0 jN0 (jce G q3) 56 [some (.ref y0), some (.long y1), none, some (.int x3)] []) ?_ (fun q3 hq3 => ?_)
        · refine J_br (w_if_ne (y := 0) C (jd jdt_Mo_newName 10 rfl) rfl) (fun h4 => J_pos h4 ?_) (fun h4 => J_neg h4 ?_)
          · refine J_mono (w_iload_n C (jd jdt_Mo_newName 11 rfl) rfl) ?_
            refine J_mono (w_bipush_8 C (jd jdt_Mo_newName 12 rfl)) ?_
            refine J_mono (w_irem C (jd jdt_Mo_newName 13 rfl) (by decide)) ?_
            refine J_mono (w_aload_n C (jd jdt_Mo_newName 14 rfl) rfl) ?_
            refine J_mono (jg_Mo_69 C hy0 (jd jdt_Mo_newName 15 rfl)) ?_
            refine J_mono (w_iload_n C (jd jdt_Mo_newName 16 rfl) rfl) ?_
            refine J_mono (w_bipush_8 C (jd jdt_Mo_newName 17 rfl)) ?_
            refine J_mono (w_idiv C (jd jdt_Mo_newName 18 rfl) (by decide)) ?_
            refine J_bind (fun v5 hv5 => ?_)
            refine J_mono (w_iald C (jkf_12_28 hy0) hv5 (jd jdt_Mo_newName 19 rfl)) ?_
            refine J_br (w_icmp_ge C (jd jdt_Mo_newName 20 rfl) rfl) (fun h6 => J_pos h6 ?_) (fun h6 => J_neg h6 ?_)
            · refine J_mono (w_aload_n C (jd jdt_Mo_newName 21 rfl) rfl) ?_
              refine J_mono (jg_Mo_72 C hy0 (jd jdt_Mo_newName 22 rfl)) ?_
              refine J_mono (w_iload_n C (jd jdt_Mo_newName 23 rfl) rfl) ?_
              refine J_bind (fun v7 hv7 => ?_)
              refine J_mono (w_lald C (jkf_12_29 hy0) hv7 (jd jdt_Mo_newName 24 rfl)) ?_
              refine J_mono (w_lload_n C (jd jdt_Mo_newName 25 rfl) rfl) ?_
              refine J_br (w_lcmp_ne C (jd jdt_Mo_newName 26 rfl) (jd jdt_Mo_newName 27 rfl) rfl) (fun h8 => J_pos h8 ?_) (fun h8 => J_neg h8 ?_)
              · refine J_mono (w_aload_n C (jd jdt_Mo_newName 28 rfl) rfl) ?_
                refine J_mono (w_iconst_3 C (jd jdt_Mo_newName 29 rfl)) ?_
                refine J_mono (w_aload_n C (jd jdt_Mo_newName 30 rfl) rfl) ?_
                refine J_mono (jg_Mo_269 C hy0 (jd jdt_Mo_newName 31 rfl)) ?_
                refine J_bind (fun q9 hq9 => ?_)
                refine J_mono (jc_Mo_248 C hy0 (C_Mo_fail l G F y0 3 (M.1 y0 27) hy0 M hq9) rfl (Nat.le_trans (Nat.le_of_ble_eq_true rfl : 1 + 1 ≤ 5) hD) (jd jdt_Mo_newName 32 rfl)) ?_
                exact J_some (fun hx => Wk_sb hx ⟨rfl, rfl, rfl, trivial⟩)
              · exact J_some (fun hx => Wk_sb hx ⟨rfl, rfl, rfl, trivial⟩)
            · exact J_some (fun hx => Wk_sb hx ⟨rfl, rfl, rfl, trivial⟩)
          · exact J_some (fun hx => Wk_sb hx ⟨rfl, rfl, rfl, trivial⟩)
        · refine J_mono (w_iinc (v := x3 + 1) (ls' := [some (.ref y0), some (.long y1), none, some (.int (x3 + 1))]) C (jd jdt_Mo_newName 33 rfl) rfl rfl (by decide) rfl rfl) ?_
          refine J_mono (w_goto C (jd jdt_Mo_newName 34 rfl) rfl) ?_
          exact J_sub (ih (x3 + 1) q3) ⟨rfl, rfl, rfl, trivial⟩
      · exact J_some (fun hx => Wk_sb hx ⟨rfl, trivial⟩)
  refine J_seq (fun (q10 : SM) => Wk p l e R s m args below meth c G 4 Q 0 0 jN0 (jce G q10) 62 [none, some (.long q1.1), none, none] []) (J_sub (L7 a0 q1.1 hp0 jfuel 0 q1.2) ⟨rfl, rfl, rfl, trivial⟩) (fun q10 hq10 => ?_)
  refine J_mono (w_lload_n C (jd jdt_Mo_newName 35 rfl) rfl) ?_
  exact J_some (fun hx => hR q1.1 q10 hx _ _ (jd jdt_Mo_newName 36 rfl) )
end
theorem C_Mo_newName (l : Launch) (G : JG) (F : jF G = false) (a0 : Nat) (hp0 : jkd a0 12) (M : SM) {q : (Int64 × SM)} (hf : f_Mo_newName a0 M = some q) : jMet l jy_Mo_newName jb_Mo_newName 4 (some FieldType.long) 5 0 0 G [.ref a0] jN0 (jce G M) (some (.long q.1)) jN0 (jce G q.2) :=
  j_met jo_Mo_newName (by decide) (Nat.le_of_ble_eq_true rfl) (fun p e s m args below meth c C hr hm => K_Mo_newName C F (Nat.le_refl _) a0 hp0 M (fun t => t = q) (fun v M' hX pc ls hd => by cases hX; exact w_lret C hr hd) _ hf rfl)
def f_Mo_opens (a0 : Nat) (M : SM) : Option SM := if (M.1 a0 46) = 5 then ((f_Mo_fail a0 4 (M.1 a0 2) M).bind fun q2 => some q2) else ((aS M (jpf a0 45) (M.1 a0 46) (M.1 a0 44)).bind fun M3 => (f_Mo_asksSign a0 40 (sI M3 a0 46 ((M3.1 a0 46) + 1))).bind fun q4 => some q4)
section
variable {p : Program} {l : Launch} {e : Env} {R : Room} {s : State} {m : MethodId} {args : Array Value} {below : List Frame} {meth : Method} {c : Code} {G : JG} {D : Nat} {Q : State → Prop}
set_option maxHeartbeats 4000000 in
set_option maxRecDepth 20000 in
theorem K_Mo_opens (C : jCx p R s m args meth c G jb_Mo_opens 1 D "SluicePitModel") (F : jF G = false) (hD : 4 ≤ D) (a0 : Nat) (hp0 : jkd a0 12) (M : SM) (X : SM → Prop) (hR : ∀ M', X M' → ∀ (pc : Nat) (ls : List (Option Value)), decode jb_Mo_opens pc = .ok (.return_, 1) → Wk p l e R s m args below meth c G 1 Q 0 0 jN0 (jce G M') pc ls []) : J X (f_Mo_opens a0 M) (Wk p l e R s m args below meth c G 1 Q 0 0 jN0 (jce G M) 0 [some (.ref a0)] []) := by
  unfold f_Mo_opens
  refine J_mono (w_aload_n C (jd jdt_Mo_opens 0 rfl) rfl) ?_
  refine J_mono (jg_Mo_298 C hp0 (jd jdt_Mo_opens 1 rfl)) ?_
  refine J_mono (w_iconst_5 C (jd jdt_Mo_opens 2 rfl)) ?_
  refine J_br (w_icmp_ne C (jd jdt_Mo_opens 3 rfl) rfl) (fun h1 => J_pos h1 ?_) (fun h1 => J_neg h1 ?_)
  · refine J_mono (w_aload_n C (jd jdt_Mo_opens 4 rfl) rfl) ?_
    refine J_mono (w_iconst_4 C (jd jdt_Mo_opens 5 rfl)) ?_
    refine J_mono (w_aload_n C (jd jdt_Mo_opens 6 rfl) rfl) ?_
    refine J_mono (jg_Mo_224 C hp0 (jd jdt_Mo_opens 7 rfl)) ?_
    refine J_bind (fun q2 hq2 => ?_)
    refine J_mono (jc_Mo_248 C hp0 (C_Mo_fail l G F a0 4 (M.1 a0 2) hp0 M hq2) rfl (Nat.le_trans (Nat.le_of_ble_eq_true rfl : 1 + 1 ≤ 4) hD) (jd jdt_Mo_opens 8 rfl)) ?_
    exact J_some (fun hx => hR q2 hx _ _ (jd jdt_Mo_opens 9 rfl))
  · refine J_mono (w_aload_n C (jd jdt_Mo_opens 10 rfl) rfl) ?_
    refine J_mono (jg_Mo_109 C hp0 (jd jdt_Mo_opens 11 rfl)) ?_
    refine J_mono (w_aload_n C (jd jdt_Mo_opens 12 rfl) rfl) ?_
    refine J_mono (jg_Mo_298 C hp0 (jd jdt_Mo_opens 13 rfl)) ?_
    refine J_mono (w_aload_n C (jd jdt_Mo_opens 14 rfl) rfl) ?_
    refine J_mono (jg_Mo_287 C hp0 (jd jdt_Mo_opens 15 rfl)) ?_
    refine J_bind (fun M3 hM3 => ?_)
    refine J_mono (w_iast C F (jkf_12_45 hp0) hM3 (jd jdt_Mo_opens 16 rfl)) ?_
    refine J_mono (w_aload_n C (jd jdt_Mo_opens 17 rfl) rfl) ?_
    refine J_mono (w_dup_r C (jd jdt_Mo_opens 18 rfl)) ?_
    refine J_mono (jg_Mo_298 C hp0 (jd jdt_Mo_opens 19 rfl)) ?_
    refine J_mono (w_iconst_1 C (jd jdt_Mo_opens 20 rfl)) ?_
    refine J_mono (w_iadd C (jd jdt_Mo_opens 21 rfl)) ?_
    refine J_mono (jp_Mo_298 C F hp0 (jd jdt_Mo_opens 22 rfl)) ?_
    refine J_mono (w_aload_n C (jd jdt_Mo_opens 23 rfl) rfl) ?_
    refine J_mono (w_bipush_40 C (jd jdt_Mo_opens 24 rfl)) ?_
    refine J_bind (fun q4 hq4 => ?_)
    refine J_mono (jc_Mo_301 C hp0 (C_Mo_asksSign l G F a0 40 hp0 (sI M3 a0 46 ((M3.1 a0 46) + 1)) hq4) rfl (Nat.le_trans (Nat.le_of_ble_eq_true rfl : 3 + 1 ≤ 4) hD) (jd jdt_Mo_opens 25 rfl)) ?_
    exact J_some (fun hx => hR q4 hx _ _ (jd jdt_Mo_opens 26 rfl))
end
theorem C_Mo_opens (l : Launch) (G : JG) (F : jF G = false) (a0 : Nat) (hp0 : jkd a0 12) (M : SM) {q : SM} (hf : f_Mo_opens a0 M = some q) : jMet l jy_Mo_opens jb_Mo_opens 1 none 4 0 0 G [.ref a0] jN0 (jce G M) none jN0 (jce G q) :=
  j_met jo_Mo_opens (by decide) (Nat.le_of_ble_eq_true rfl) (fun p e s m args below meth c C hr hm => K_Mo_opens C F (Nat.le_refl _) a0 hp0 M (fun t => t = q) (fun M' hX pc ls hd => by cases hX; exact w_vret C hr hd) _ hf rfl)
def f_Mo_barOf (a0 : Int32) : Option Int32 := if a0 = 100 then (some 0) else (if a0 = 117 then (some 1) else (if a0 = 114 then (some 2) else (if a0 = 116 then (some 3) else (some (-1)))))
section
variable {p : Program} {l : Launch} {e : Env} {R : Room} {s : State} {m : MethodId} {args : Array Value} {below : List Frame} {meth : Method} {c : Code} {G : JG} {D : Nat} {Q : State → Prop}
set_option maxHeartbeats 4000000 in
set_option maxRecDepth 20000 in
theorem K_Mo_barOf (C : jCx p R s m args meth c G jb_Mo_barOf 1 D "SluicePitModel") (F : jF G = false) (hD : 1 ≤ D) (a0 : Int32)  (M : SM) (X : Int32 → Prop) (hR : ∀ v, X v → ∀ (pc : Nat) (ls : List (Option Value)), decode jb_Mo_barOf pc = .ok (.ireturn, 1) → narrow FieldType.int (.int v) = .int v → Wk p l e R s m args below meth c G 1 Q 0 0 jN0 (jce G M) pc ls [.int v]) : J X (f_Mo_barOf a0) (Wk p l e R s m args below meth c G 1 Q 0 0 jN0 (jce G M) 0 [some (.int a0)] []) := by
  unfold f_Mo_barOf
  refine J_mono (w_iload_n C (jd jdt_Mo_barOf 0 rfl) rfl) ?_
  refine J_mono (w_bipush_100 C (jd jdt_Mo_barOf 1 rfl)) ?_
  refine J_br (w_icmp_ne C (jd jdt_Mo_barOf 2 rfl) rfl) (fun h1 => J_pos h1 ?_) (fun h1 => J_neg h1 ?_)
  · refine J_mono (w_iconst_0 C (jd jdt_Mo_barOf 3 rfl)) ?_
    refine J_mono (w_goto C (jd jdt_Mo_barOf 4 rfl) rfl) ?_
    exact J_some (fun hx => hR 0 hx _ _ (jd jdt_Mo_barOf 21 rfl) rfl)
  · refine J_mono (w_iload_n C (jd jdt_Mo_barOf 5 rfl) rfl) ?_
    refine J_mono (w_bipush_117 C (jd jdt_Mo_barOf 6 rfl)) ?_
    refine J_br (w_icmp_ne C (jd jdt_Mo_barOf 7 rfl) rfl) (fun h2 => J_pos h2 ?_) (fun h2 => J_neg h2 ?_)
    · refine J_mono (w_iconst_1 C (jd jdt_Mo_barOf 8 rfl)) ?_
      refine J_mono (w_goto C (jd jdt_Mo_barOf 9 rfl) rfl) ?_
      exact J_some (fun hx => hR 1 hx _ _ (jd jdt_Mo_barOf 21 rfl) rfl)
    · refine J_mono (w_iload_n C (jd jdt_Mo_barOf 10 rfl) rfl) ?_
      refine J_mono (w_bipush_114 C (jd jdt_Mo_barOf 11 rfl)) ?_
      refine J_br (w_icmp_ne C (jd jdt_Mo_barOf 12 rfl) rfl) (fun h3 => J_pos h3 ?_) (fun h3 => J_neg h3 ?_)
      · refine J_mono (w_iconst_2 C (jd jdt_Mo_barOf 13 rfl)) ?_
        refine J_mono (w_goto C (jd jdt_Mo_barOf 14 rfl) rfl) ?_
        exact J_some (fun hx => hR 2 hx _ _ (jd jdt_Mo_barOf 21 rfl) rfl)
      · refine J_mono (w_iload_n C (jd jdt_Mo_barOf 15 rfl) rfl) ?_
        refine J_mono (w_bipush_116 C (jd jdt_Mo_barOf 16 rfl)) ?_
        refine J_br (w_icmp_ne C (jd jdt_Mo_barOf 17 rfl) rfl) (fun h4 => J_pos h4 ?_) (fun h4 => J_neg h4 ?_)
        · refine J_mono (w_iconst_3 C (jd jdt_Mo_barOf 18 rfl)) ?_
          refine J_mono (w_goto C (jd jdt_Mo_barOf 19 rfl) rfl) ?_
          exact J_some (fun hx => hR 3 hx _ _ (jd jdt_Mo_barOf 21 rfl) rfl)
        · refine J_mono (w_iconst_m1 C (jd jdt_Mo_barOf 20 rfl)) ?_
          exact J_some (fun hx => hR (-1) hx _ _ (jd jdt_Mo_barOf 21 rfl) rfl)
end
theorem C_Mo_barOf (l : Launch) (G : JG) (F : jF G = false) (a0 : Int32)  (M : SM) {q : Int32} (hf : f_Mo_barOf a0 = some q) : jMet l jy_Mo_barOf jb_Mo_barOf 1 (some FieldType.int) 1 0 0 G [.int a0] jN0 (jce G M) (some (.int q)) jN0 (jce G M) :=
  j_met jo_Mo_barOf (by decide) (Nat.le_of_ble_eq_true rfl) (fun p e s m args below meth c C hr hm => K_Mo_barOf C F (Nat.le_refl _) a0  M (fun t => t = q) (fun v hX pc ls hd hn => by cases hX; exact w_iret C hr hn hd) _ hf rfl)
def f_Mo_barIs (a0 : Nat) (a1 : Int32) (M : SM) : Option SM := (if (M.1 a0 44) < 60 then ((aS M (jpf a0 43) (M.1 a0 44) a1).bind fun M3 => some M3) else (some M) : Option (SM)).bind fun q1 => some (sI q1 a0 44 ((q1.1 a0 44) + 1))
section
variable {p : Program} {l : Launch} {e : Env} {R : Room} {s : State} {m : MethodId} {args : Array Value} {below : List Frame} {meth : Method} {c : Code} {G : JG} {D : Nat} {Q : State → Prop}
set_option maxHeartbeats 4000000 in
set_option maxRecDepth 20000 in
theorem K_Mo_barIs (C : jCx p R s m args meth c G jb_Mo_barIs 2 D "SluicePitModel") (F : jF G = false) (hD : 1 ≤ D) (a0 : Nat) (a1 : Int32) (hp0 : jkd a0 12) (M : SM) (X : SM → Prop) (hR : ∀ M', X M' → ∀ (pc : Nat) (ls : List (Option Value)), decode jb_Mo_barIs pc = .ok (.return_, 1) → Wk p l e R s m args below meth c G 2 Q 0 0 jN0 (jce G M') pc ls []) : J X (f_Mo_barIs a0 a1 M) (Wk p l e R s m args below meth c G 2 Q 0 0 jN0 (jce G M) 0 [some (.ref a0), some (.int a1)] []) := by
  unfold f_Mo_barIs
  refine J_mono (w_aload_n C (jd jdt_Mo_barIs 0 rfl) rfl) ?_
  refine J_mono (jg_Mo_287 C hp0 (jd jdt_Mo_barIs 1 rfl)) ?_
  refine J_mono (w_bipush_60 C (jd jdt_Mo_barIs 2 rfl)) ?_
  refine J_seq (fun (q1 : SM) => Wk p l e R s m args below meth c G 2 Q 0 0 jN0 (jce G q1) 19 [some (.ref a0), none] []) ?_ (fun q1 hq1 => ?_)
  · refine J_br (w_icmp_ge C (jd jdt_Mo_barIs 3 rfl) rfl) (fun h2 => J_pos h2 ?_) (fun h2 => J_neg h2 ?_)
    · refine J_mono (w_aload_n C (jd jdt_Mo_barIs 4 rfl) rfl) ?_
      refine J_mono (jg_Mo_106 C hp0 (jd jdt_Mo_barIs 5 rfl)) ?_
      refine J_mono (w_aload_n C (jd jdt_Mo_barIs 6 rfl) rfl) ?_
      refine J_mono (jg_Mo_287 C hp0 (jd jdt_Mo_barIs 7 rfl)) ?_
      refine J_mono (w_iload_n C (jd jdt_Mo_barIs 8 rfl) rfl) ?_
      refine J_bind (fun M3 hM3 => ?_)
      refine J_mono (w_iast C F (jkf_12_43 hp0) hM3 (jd jdt_Mo_barIs 9 rfl)) ?_
      exact J_some (fun hx => Wk_sb hx ⟨rfl, trivial⟩)
    · exact J_some (fun hx => Wk_sb hx ⟨rfl, trivial⟩)
  · refine J_mono (w_aload_n C (jd jdt_Mo_barIs 10 rfl) rfl) ?_
    refine J_mono (w_dup_r C (jd jdt_Mo_barIs 11 rfl)) ?_
    refine J_mono (jg_Mo_287 C hp0 (jd jdt_Mo_barIs 12 rfl)) ?_
    refine J_mono (w_iconst_1 C (jd jdt_Mo_barIs 13 rfl)) ?_
    refine J_mono (w_iadd C (jd jdt_Mo_barIs 14 rfl)) ?_
    refine J_mono (jp_Mo_287 C F hp0 (jd jdt_Mo_barIs 15 rfl)) ?_
    exact J_some (fun hx => hR (sI q1 a0 44 ((q1.1 a0 44) + 1)) hx _ _ (jd jdt_Mo_barIs 16 rfl))
end
theorem C_Mo_barIs (l : Launch) (G : JG) (F : jF G = false) (a0 : Nat) (a1 : Int32) (hp0 : jkd a0 12) (M : SM) {q : SM} (hf : f_Mo_barIs a0 a1 M = some q) : jMet l jy_Mo_barIs jb_Mo_barIs 2 none 1 0 0 G [.ref a0, .int a1] jN0 (jce G M) none jN0 (jce G q) :=
  j_met jo_Mo_barIs (by decide) (Nat.le_of_ble_eq_true rfl) (fun p e s m args below meth c C hr hm => K_Mo_barIs C F (Nat.le_refl _) a0 a1 hp0 M (fun t => t = q) (fun M' hX pc ls hd => by cases hX; exact w_vret C hr hd) _ hf rfl)
def lp_Mo_barsTold_44 (y0 : Nat) (y1 : Int32) : Nat → SM → Option ((SM) ⊕ SM)
  | 0, _ => none
  | n + 1, M => if (M.1 y0 2) < (M.1 y0 3) then ((aI M (jpf y0 0) (M.1 y0 2)).bind fun v9 => (f_Mo_isLetter v9).bind fun q10 => if q10 = 0 then (some (.inl M)) else (if ((M.1 y0 2) - y1) = 12 then ((f_Mo_fail y0 1 y1 M).bind fun q13 => some (.inr q13)) else ((aI M (jpf y0 0) (M.1 y0 2)).bind fun v14 => (f_Mo_barOf v14).bind fun q15 => if q15 = (-1) then ((f_Mo_fail y0 1 y1 M).bind fun q17 => some (.inr q17)) else ((aI M (jpf y0 0) (M.1 y0 2)).bind fun v18 => (f_Mo_barOf v18).bind fun q19 => (f_Mo_barIs y0 q19 M).bind fun q20 => lp_Mo_barsTold_44 y0 y1 n (sI q20 y0 2 ((q20.1 y0 2) + 1)))))) else (some (.inl M))
def f_Mo_barsTold (a0 : Nat) (M : SM) : Option SM := if (M.1 a0 5) = 0 then ((f_Mo_look a0 M).bind fun q2 => (f_Mo_isLetter q2.1).bind fun q3 => if q3 = 0 then ((f_Mo_fail a0 1 (q2.2.1 a0 2) q2.2).bind fun q5 => some q5) else (if (q2.2.1 a0 2) = (q2.2.1 a0 4) then ((f_Mo_fail a0 1 (q2.2.1 a0 2) q2.2).bind fun q7 => some q7) else (jsb (lp_Mo_barsTold_44 a0 (q2.2.1 a0 2) jfuel q2.2) id fun q21 => some (sI q21 a0 4 (q21.1 a0 2))))) else (some M)
section
variable {p : Program} {l : Launch} {e : Env} {R : Room} {s : State} {m : MethodId} {args : Array Value} {below : List Frame} {meth : Method} {c : Code} {G : JG} {D : Nat} {Q : State → Prop}
set_option maxHeartbeats 4000000 in
set_option maxRecDepth 20000 in
theorem K_Mo_barsTold (C : jCx p R s m args meth c G jb_Mo_barsTold 2 D "SluicePitModel") (F : jF G = false) (hD : 2 ≤ D) (a0 : Nat) (hp0 : jkd a0 12) (M : SM) (X : SM → Prop) (hR : ∀ M', X M' → ∀ (pc : Nat) (ls : List (Option Value)), decode jb_Mo_barsTold pc = .ok (.return_, 1) → Wk p l e R s m args below meth c G 2 Q 0 0 jN0 (jce G M') pc ls []) : J X (f_Mo_barsTold a0 M) (Wk p l e R s m args below meth c G 2 Q 0 0 jN0 (jce G M) 0 [some (.ref a0), none] []) := by
  unfold f_Mo_barsTold
  refine J_mono (w_aload_n C (jd jdt_Mo_barsTold 0 rfl) rfl) ?_
  refine J_mono (jg_Mo_218 C hp0 (jd jdt_Mo_barsTold 1 rfl)) ?_
  refine J_br (w_if_eq (y := 0) C (jd jdt_Mo_barsTold 2 rfl) rfl) (fun h1 => J_pos h1 ?_) (fun h1 => J_neg h1 ?_)
  · refine J_mono (w_aload_n C (jd jdt_Mo_barsTold 4 rfl) rfl) ?_
    refine J_bind (fun q2 hq2 => ?_)
    refine J_mono (jc_Mo_230 C hp0 (C_Mo_look l G F a0 hp0 M hq2) rfl (Nat.le_trans (Nat.le_of_ble_eq_true rfl : 1 + 1 ≤ 2) hD) (jd jdt_Mo_barsTold 5 rfl)) ?_
    refine J_bind (fun q3 hq3 => ?_)
    refine J_mono (jc_Mo_234 C (C_Mo_isLetter l G F q2.1 q2.2 hq3) rfl (Nat.le_trans (Nat.le_of_ble_eq_true rfl : 1 + 1 ≤ 2) hD) (jd jdt_Mo_barsTold 6 rfl)) ?_
    refine J_br (w_if_eq (y := 0) C (jd jdt_Mo_barsTold 7 rfl) rfl) (fun h4 => J_pos h4 ?_) (fun h4 => J_neg h4 ?_)
    · refine J_mono (w_aload_n C (jd jdt_Mo_barsTold 13 rfl) rfl) ?_
      refine J_mono (w_iconst_1 C (jd jdt_Mo_barsTold 14 rfl)) ?_
      refine J_mono (w_aload_n C (jd jdt_Mo_barsTold 15 rfl) rfl) ?_
      refine J_mono (jg_Mo_224 C hp0 (jd jdt_Mo_barsTold 16 rfl)) ?_
      refine J_bind (fun q5 hq5 => ?_)
      refine J_mono (jc_Mo_248 C hp0 (C_Mo_fail l G F a0 1 (q2.2.1 a0 2) hp0 q2.2 hq5) rfl (Nat.le_trans (Nat.le_of_ble_eq_true rfl : 1 + 1 ≤ 2) hD) (jd jdt_Mo_barsTold 17 rfl)) ?_
      exact J_some (fun hx => hR q5 hx _ _ (jd jdt_Mo_barsTold 18 rfl))
    · refine J_mono (w_aload_n C (jd jdt_Mo_barsTold 8 rfl) rfl) ?_
      refine J_mono (jg_Mo_224 C hp0 (jd jdt_Mo_barsTold 9 rfl)) ?_
      refine J_mono (w_aload_n C (jd jdt_Mo_barsTold 10 rfl) rfl) ?_
      refine J_mono (jg_Mo_238 C hp0 (jd jdt_Mo_barsTold 11 rfl)) ?_
      refine J_br (w_icmp_ne C (jd jdt_Mo_barsTold 12 rfl) rfl) (fun h6 => J_pos h6 ?_) (fun h6 => J_neg h6 ?_)
      · refine J_mono (w_aload_n C (jd jdt_Mo_barsTold 13 rfl) rfl) ?_
        refine J_mono (w_iconst_1 C (jd jdt_Mo_barsTold 14 rfl)) ?_
        refine J_mono (w_aload_n C (jd jdt_Mo_barsTold 15 rfl) rfl) ?_
        refine J_mono (jg_Mo_224 C hp0 (jd jdt_Mo_barsTold 16 rfl)) ?_
        refine J_bind (fun q7 hq7 => ?_)
        refine J_mono (jc_Mo_248 C hp0 (C_Mo_fail l G F a0 1 (q2.2.1 a0 2) hp0 q2.2 hq7) rfl (Nat.le_trans (Nat.le_of_ble_eq_true rfl : 1 + 1 ≤ 2) hD) (jd jdt_Mo_barsTold 17 rfl)) ?_
        exact J_some (fun hx => hR q7 hx _ _ (jd jdt_Mo_barsTold 18 rfl))
      · refine J_mono (w_aload_n C (jd jdt_Mo_barsTold 19 rfl) rfl) ?_
        refine J_mono (jg_Mo_224 C hp0 (jd jdt_Mo_barsTold 20 rfl)) ?_
        refine J_mono (w_istore_n (ls' := [some (.ref a0), some (.int (q2.2.1 a0 2))]) C (jd jdt_Mo_barsTold 21 rfl) (by decide) rfl rfl) ?_
        have L44 : ∀ (y0 : Nat) (y1 : Int32) (hy0 : jkd y0 12) (n : Nat)  (M : SM), J (Sum.elim (fun (q21 : SM) => Wk p l e R s m args below meth c G 2 Q 0 0 jN0 (jce G q21) 133 [some (.ref y0), none] []) X) (lp_Mo_barsTold_44 y0 y1 n M) (Wk p l e R s m args below meth c G 2 Q 0 0 jN0 (jce G M) 44 [some (.ref y0), some (.int y1)] []) := by
          intro y0 y1 hy0 n
          induction n with
          | zero => intro  M; exact J_none
          | succ n ih =>
            intro  M
            unfold lp_Mo_barsTold_44
            refine J_mono (w_aload_n C (jd jdt_Mo_barsTold 22 rfl) rfl) ?_
            refine J_mono (jg_Mo_224 C hy0 (jd jdt_Mo_barsTold 23 rfl)) ?_
            refine J_mono (w_aload_n C (jd jdt_Mo_barsTold 24 rfl) rfl) ?_
            refine J_mono (jg_Mo_227 C hy0 (jd jdt_Mo_barsTold 25 rfl)) ?_
            refine J_br (w_icmp_ge C (jd jdt_Mo_barsTold 26 rfl) rfl) (fun h8 => J_pos h8 ?_) (fun h8 => J_neg h8 ?_)
            · refine J_mono (w_aload_n C (jd jdt_Mo_barsTold 27 rfl) rfl) ?_
              refine J_mono (jg_Mo_7 C hy0 (jd jdt_Mo_barsTold 28 rfl)) ?_
              refine J_mono (w_aload_n C (jd jdt_Mo_barsTold 29 rfl) rfl) ?_
              refine J_mono (jg_Mo_224 C hy0 (jd jdt_Mo_barsTold 30 rfl)) ?_
              refine J_bind (fun v9 hv9 => ?_)
              refine J_mono (w_iald C (jkf_12_0 hy0) hv9 (jd jdt_Mo_barsTold 31 rfl)) ?_
              refine J_bind (fun q10 hq10 => ?_)
              refine J_mono (jc_Mo_234 C (C_Mo_isLetter l G F v9 M hq10) rfl (Nat.le_trans (Nat.le_of_ble_eq_true rfl : 1 + 1 ≤ 2) hD) (jd jdt_Mo_barsTold 32 rfl)) ?_
              refine J_br (w_if_eq (y := 0) C (jd jdt_Mo_barsTold 33 rfl) rfl) (fun h11 => J_pos h11 ?_) (fun h11 => J_neg h11 ?_)
              · exact J_some (fun hx => Wk_sb hx ⟨rfl, trivial⟩)
              · refine J_mono (w_aload_n C (jd jdt_Mo_barsTold 34 rfl) rfl) ?_
                refine J_mono (jg_Mo_224 C hy0 (jd jdt_Mo_barsTold 35 rfl)) ?_
                refine J_mono (w_iload_n C (jd jdt_Mo_barsTold 36 rfl) rfl) ?_
                refine J_mono (w_isub C (jd jdt_Mo_barsTold 37 rfl)) ?_
                refine J_mono (w_bipush_12 C (jd jdt_Mo_barsTold 38 rfl)) ?_
                refine J_br (w_icmp_eq C (jd jdt_Mo_barsTold 39 rfl) rfl) (fun h12 => J_pos h12 ?_) (fun h12 => J_neg h12 ?_)
                · refine J_mono (w_aload_n C (jd jdt_Mo_barsTold 48 rfl) rfl) ?_
                  refine J_mono (w_iconst_1 C (jd jdt_Mo_barsTold 49 rfl)) ?_
                  refine J_mono (w_iload_n C (jd jdt_Mo_barsTold 50 rfl) rfl) ?_
                  refine J_bind (fun q13 hq13 => ?_)
                  refine J_mono (jc_Mo_248 C hy0 (C_Mo_fail l G F y0 1 y1 hy0 M hq13) rfl (Nat.le_trans (Nat.le_of_ble_eq_true rfl : 1 + 1 ≤ 2) hD) (jd jdt_Mo_barsTold 51 rfl)) ?_
                  exact J_some (fun hx => hR q13 hx _ _ (jd jdt_Mo_barsTold 52 rfl))
                · refine J_mono (w_aload_n C (jd jdt_Mo_barsTold 40 rfl) rfl) ?_
                  refine J_mono (jg_Mo_7 C hy0 (jd jdt_Mo_barsTold 41 rfl)) ?_
                  refine J_mono (w_aload_n C (jd jdt_Mo_barsTold 42 rfl) rfl) ?_
                  refine J_mono (jg_Mo_224 C hy0 (jd jdt_Mo_barsTold 43 rfl)) ?_
                  refine J_bind (fun v14 hv14 => ?_)
                  refine J_mono (w_iald C (jkf_12_0 hy0) hv14 (jd jdt_Mo_barsTold 44 rfl)) ?_
                  refine J_bind (fun q15 hq15 => ?_)
                  refine J_mono (jc_Mo_290 C (C_Mo_barOf l G F v14 M hq15) rfl (Nat.le_trans (Nat.le_of_ble_eq_true rfl : 1 + 1 ≤ 2) hD) (jd jdt_Mo_barsTold 45 rfl)) ?_
                  refine J_mono (w_iconst_m1 C (jd jdt_Mo_barsTold 46 rfl)) ?_
                  refine J_br (w_icmp_ne C (jd jdt_Mo_barsTold 47 rfl) rfl) (fun h16 => J_pos h16 ?_) (fun h16 => J_neg h16 ?_)
                  · refine J_mono (w_aload_n C (jd jdt_Mo_barsTold 48 rfl) rfl) ?_
                    refine J_mono (w_iconst_1 C (jd jdt_Mo_barsTold 49 rfl)) ?_
                    refine J_mono (w_iload_n C (jd jdt_Mo_barsTold 50 rfl) rfl) ?_
                    refine J_bind (fun q17 hq17 => ?_)
                    refine J_mono (jc_Mo_248 C hy0 (C_Mo_fail l G F y0 1 y1 hy0 M hq17) rfl (Nat.le_trans (Nat.le_of_ble_eq_true rfl : 1 + 1 ≤ 2) hD) (jd jdt_Mo_barsTold 51 rfl)) ?_
                    exact J_some (fun hx => hR q17 hx _ _ (jd jdt_Mo_barsTold 52 rfl))
                  · refine J_mono (w_aload_n C (jd jdt_Mo_barsTold 53 rfl) rfl) ?_
                    refine J_mono (w_aload_n C (jd jdt_Mo_barsTold 54 rfl) rfl) ?_
                    refine J_mono (jg_Mo_7 C hy0 (jd jdt_Mo_barsTold 55 rfl)) ?_
                    refine J_mono (w_aload_n C (jd jdt_Mo_barsTold 56 rfl) rfl) ?_
                    refine J_mono (jg_Mo_224 C hy0 (jd jdt_Mo_barsTold 57 rfl)) ?_
                    refine J_bind (fun v18 hv18 => ?_)
                    refine J_mono (w_iald C (jkf_12_0 hy0) hv18 (jd jdt_Mo_barsTold 58 rfl)) ?_
                    refine J_bind (fun q19 hq19 => ?_)
                    refine J_mono (jc_Mo_290 C (C_Mo_barOf l G F v18 M hq19) rfl (Nat.le_trans (Nat.le_of_ble_eq_true rfl : 1 + 1 ≤ 2) hD) (jd jdt_Mo_barsTold 59 rfl)) ?_
                    refine J_bind (fun q20 hq20 => ?_)
                    refine J_mono (jc_Mo_294 C hy0 (C_Mo_barIs l G F y0 q19 hy0 M hq20) rfl (Nat.le_trans (Nat.le_of_ble_eq_true rfl : 1 + 1 ≤ 2) hD) (jd jdt_Mo_barsTold 60 rfl)) ?_
                    refine J_mono (w_aload_n C (jd jdt_Mo_barsTold 61 rfl) rfl) ?_
                    refine J_mono (w_dup_r C (jd jdt_Mo_barsTold 62 rfl)) ?_
                    refine J_mono (jg_Mo_224 C hy0 (jd jdt_Mo_barsTold 63 rfl)) ?_
                    refine J_mono (w_iconst_1 C (jd jdt_Mo_barsTold 64 rfl)) ?_
                    refine J_mono (w_iadd C (jd jdt_Mo_barsTold 65 rfl)) ?_
                    refine J_mono (jp_Mo_224 C F hy0 (jd jdt_Mo_barsTold 66 rfl)) ?_
                    refine J_mono (w_goto C (jd jdt_Mo_barsTold 67 rfl) rfl) ?_
                    exact J_sub (ih (sI q20 y0 2 ((q20.1 y0 2) + 1))) ⟨rfl, rfl, trivial⟩
            · exact J_some (fun hx => Wk_sb hx ⟨rfl, trivial⟩)
        refine J_sb (fun (q21 : SM) => Wk p l e R s m args below meth c G 2 Q 0 0 jN0 (jce G q21) 133 [some (.ref a0), none] []) (J_sub (L44 a0 (q2.2.1 a0 2) hp0 jfuel q2.2) ⟨rfl, rfl, trivial⟩) (fun q21 => ?_)
        refine J_mono (w_aload_n C (jd jdt_Mo_barsTold 68 rfl) rfl) ?_
        refine J_mono (w_aload_n C (jd jdt_Mo_barsTold 69 rfl) rfl) ?_
        refine J_mono (jg_Mo_224 C hp0 (jd jdt_Mo_barsTold 70 rfl)) ?_
        refine J_mono (jp_Mo_238 C F hp0 (jd jdt_Mo_barsTold 71 rfl)) ?_
        exact J_some (fun hx => hR (sI q21 a0 4 (q21.1 a0 2)) hx _ _ (jd jdt_Mo_barsTold 72 rfl))
  · exact J_some (fun hx => hR M hx _ _ (jd jdt_Mo_barsTold 3 rfl))
end
theorem C_Mo_barsTold (l : Launch) (G : JG) (F : jF G = false) (a0 : Nat) (hp0 : jkd a0 12) (M : SM) {q : SM} (hf : f_Mo_barsTold a0 M = some q) : jMet l jy_Mo_barsTold jb_Mo_barsTold 2 none 2 0 0 G [.ref a0] jN0 (jce G M) none jN0 (jce G q) :=
  j_met jo_Mo_barsTold (by decide) (Nat.le_of_ble_eq_true rfl) (fun p e s m args below meth c C hr hm => K_Mo_barsTold C F (Nat.le_refl _) a0 hp0 M (fun t => t = q) (fun M' hX pc ls hd => by cases hX; exact w_vret C hr hd) _ hf rfl)
def lp_Mo_closes_60 (y0 : Nat) (y1 : Int32) (y2 : Int32) (y3 : Int32) : Nat → Int32 → SM → Option (SM)
  | 0, _, _ => none
  | n + 1, x4, M => if x4 < (y3 * (y1 - 1)) then (if (M.1 y0 44) < 60 then ((aI M (jpf y0 43) (y2 + x4)).bind fun v8 => (f_Mo_barIs y0 v8 M).bind fun q9 => lp_Mo_closes_60 y0 y1 y2 y3 n (x4 + 1) q9) else (some M)) else (some M)
def f_Mo_closes (a0 : Nat) (M : SM) : Option SM := (f_Mo_asksSign a0 41 M).bind fun q1 => (f_Mo_asks a0 (jpf a0 26) q1).bind fun q2 => (f_Mo_number a0 2 9 q2).bind fun q3 => if (q3.2.1 a0 5) = 0 then ((aI (sI q3.2 a0 46 ((q3.2.1 a0 46) - 1)) (jpf a0 45) ((sI q3.2 a0 46 ((q3.2.1 a0 46) - 1)).1 a0 46)).bind fun v5 => (lp_Mo_closes_60 a0 q3.1 v5 (((sI q3.2 a0 46 ((q3.2.1 a0 46) - 1)).1 a0 44) - v5) jfuel 0 (sI q3.2 a0 46 ((q3.2.1 a0 46) - 1))).bind fun q10 => some (sI q10 a0 44 (v5 + ((((sI q3.2 a0 46 ((q3.2.1 a0 46) - 1)).1 a0 44) - v5) * q3.1)))) else (some q3.2)
section
variable {p : Program} {l : Launch} {e : Env} {R : Room} {s : State} {m : MethodId} {args : Array Value} {below : List Frame} {meth : Method} {c : Code} {G : JG} {D : Nat} {Q : State → Prop}
set_option maxHeartbeats 4000000 in
set_option maxRecDepth 20000 in
theorem K_Mo_closes (C : jCx p R s m args meth c G jb_Mo_closes 5 D "SluicePitModel") (F : jF G = false) (hD : 5 ≤ D) (a0 : Nat) (hp0 : jkd a0 12) (M : SM) (X : SM → Prop) (hR : ∀ M', X M' → ∀ (pc : Nat) (ls : List (Option Value)), decode jb_Mo_closes pc = .ok (.return_, 1) → Wk p l e R s m args below meth c G 5 Q 0 0 jN0 (jce G M') pc ls []) : J X (f_Mo_closes a0 M) (Wk p l e R s m args below meth c G 5 Q 0 0 jN0 (jce G M) 0 [some (.ref a0), none, none, none, none] []) := by
  unfold f_Mo_closes
  refine J_mono (w_aload_n C (jd jdt_Mo_closes 0 rfl) rfl) ?_
  refine J_mono (w_bipush_41 C (jd jdt_Mo_closes 1 rfl)) ?_
  refine J_bind (fun q1 hq1 => ?_)
  refine J_mono (jc_Mo_301 C hp0 (C_Mo_asksSign l G F a0 41 hp0 M hq1) rfl (Nat.le_trans (Nat.le_of_ble_eq_true rfl : 3 + 1 ≤ 5) hD) (jd jdt_Mo_closes 2 rfl)) ?_
  refine J_mono (w_aload_n C (jd jdt_Mo_closes 3 rfl) rfl) ?_
  refine J_mono (w_aload_n C (jd jdt_Mo_closes 4 rfl) rfl) ?_
  refine J_mono (jg_Mo_66 C hp0 (jd jdt_Mo_closes 5 rfl)) ?_
  refine J_bind (fun q2 hq2 => ?_)
  refine J_mono (jc_Mo_304 C hp0 (C_Mo_asks l G F a0 (jpf a0 26) hp0 (jkf_12_26 hp0) q1 hq2) rfl (Nat.le_trans (Nat.le_of_ble_eq_true rfl : 4 + 1 ≤ 5) hD) (jd jdt_Mo_closes 6 rfl)) ?_
  refine J_mono (w_aload_n C (jd jdt_Mo_closes 7 rfl) rfl) ?_
  refine J_mono (w_iconst_2 C (jd jdt_Mo_closes 8 rfl)) ?_
  refine J_mono (w_bipush_9 C (jd jdt_Mo_closes 9 rfl)) ?_
  refine J_bind (fun q3 hq3 => ?_)
  refine J_mono (jc_Mo_283 C hp0 (C_Mo_number l G F a0 2 9 hp0 q2 hq3) rfl (Nat.le_trans (Nat.le_of_ble_eq_true rfl : 2 + 1 ≤ 5) hD) (jd jdt_Mo_closes 10 rfl)) ?_
  refine J_mono (w_istore_n (ls' := [some (.ref a0), some (.int q3.1), none, none, none]) C (jd jdt_Mo_closes 11 rfl) (by decide) rfl rfl) ?_
  refine J_mono (w_aload_n C (jd jdt_Mo_closes 12 rfl) rfl) ?_
  refine J_mono (jg_Mo_218 C hp0 (jd jdt_Mo_closes 13 rfl)) ?_
  refine J_br (w_if_eq (y := 0) C (jd jdt_Mo_closes 14 rfl) rfl) (fun h4 => J_pos h4 ?_) (fun h4 => J_neg h4 ?_)
  · refine J_mono (w_aload_n C (jd jdt_Mo_closes 16 rfl) rfl) ?_
    refine J_mono (w_dup_r C (jd jdt_Mo_closes 17 rfl)) ?_
    refine J_mono (jg_Mo_298 C hp0 (jd jdt_Mo_closes 18 rfl)) ?_
    refine J_mono (w_iconst_1 C (jd jdt_Mo_closes 19 rfl)) ?_
    refine J_mono (w_isub C (jd jdt_Mo_closes 20 rfl)) ?_
    refine J_mono (jp_Mo_298 C F hp0 (jd jdt_Mo_closes 21 rfl)) ?_
    refine J_mono (w_aload_n C (jd jdt_Mo_closes 22 rfl) rfl) ?_
    refine J_mono (jg_Mo_109 C hp0 (jd jdt_Mo_closes 23 rfl)) ?_
    refine J_mono (w_aload_n C (jd jdt_Mo_closes 24 rfl) rfl) ?_
    refine J_mono (jg_Mo_298 C hp0 (jd jdt_Mo_closes 25 rfl)) ?_
    refine J_bind (fun v5 hv5 => ?_)
    refine J_mono (w_iald C (jkf_12_45 hp0) hv5 (jd jdt_Mo_closes 26 rfl)) ?_
    refine J_mono (w_istore_n (ls' := [some (.ref a0), some (.int q3.1), some (.int v5), none, none]) C (jd jdt_Mo_closes 27 rfl) (by decide) rfl rfl) ?_
    refine J_mono (w_aload_n C (jd jdt_Mo_closes 28 rfl) rfl) ?_
    refine J_mono (jg_Mo_287 C hp0 (jd jdt_Mo_closes 29 rfl)) ?_
    refine J_mono (w_iload_n C (jd jdt_Mo_closes 30 rfl) rfl) ?_
    refine J_mono (w_isub C (jd jdt_Mo_closes 31 rfl)) ?_
    refine J_mono (w_istore_n (ls' := [some (.ref a0), some (.int q3.1), some (.int v5), some (.int (((sI q3.2 a0 46 ((q3.2.1 a0 46) - 1)).1 a0 44) - v5)), none]) C (jd jdt_Mo_closes 32 rfl) (by decide) rfl rfl) ?_
    refine J_mono (w_iconst_0 C (jd jdt_Mo_closes 33 rfl)) ?_
    refine J_mono (w_istore (ls' := [some (.ref a0), some (.int q3.1), some (.int v5), some (.int (((sI q3.2 a0 46 ((q3.2.1 a0 46) - 1)).1 a0 44) - v5)), some (.int 0)]) C (jd jdt_Mo_closes 34 rfl) (by decide) rfl rfl) ?_
    have L60 : ∀ (y0 : Nat) (y1 : Int32) (y2 : Int32) (y3 : Int32) (hy0 : jkd y0 12) (n : Nat) (x4 : Int32) (M : SM), J (fun (q10 : SM) => Wk p l e R s m args below meth c G 5 Q 0 0 jN0 (jce G q10) 98 [some (.ref y0), some (.int y1), some (.int y2), some (.int y3), none] []) (lp_Mo_closes_60 y0 y1 y2 y3 n x4 M) (Wk p l e R s m args below meth c G 5 Q 0 0 jN0 (jce G M) 60 [some (.ref y0), some (.int y1), some (.int y2), some (.int y3), some (.int x4)] []) := by
      intro y0 y1 y2 y3 hy0 n
      induction n with
      | zero => intro x4 M; exact J_none
      | succ n ih =>
        intro x4 M
        unfold lp_Mo_closes_60
        refine J_mono (w_iload C (jd jdt_Mo_closes 35 rfl) rfl) ?_
        refine J_mono (w_iload_n C (jd jdt_Mo_closes 36 rfl) rfl) ?_
        refine J_mono (w_iload_n C (jd jdt_Mo_closes 37 rfl) rfl) ?_
        refine J_mono (w_iconst_1 C (jd jdt_Mo_closes 38 rfl)) ?_
        refine J_mono (w_isub C (jd jdt_Mo_closes 39 rfl)) ?_
        refine J_mono (w_imul C (jd jdt_Mo_closes 40 rfl)) ?_
        refine J_br (w_icmp_ge C (jd jdt_Mo_closes 41 rfl) rfl) (fun h6 => J_pos h6 ?_) (fun h6 => J_neg h6 ?_)
        · refine J_mono (w_aload_n C (jd jdt_Mo_closes 42 rfl) rfl) ?_
          refine J_mono (jg_Mo_287 C hy0 (jd jdt_Mo_closes 43 rfl)) ?_
          refine J_mono (w_bipush_60 C (jd jdt_Mo_closes 44 rfl)) ?_
          refine J_br (w_icmp_ge C (jd jdt_Mo_closes 45 rfl) rfl) (fun h7 => J_pos h7 ?_) (fun h7 => J_neg h7 ?_)
          · refine J_mono (w_aload_n C (jd jdt_Mo_closes 46 rfl) rfl) ?_
            refine J_mono (w_aload_n C (jd jdt_Mo_closes 47 rfl) rfl) ?_
            refine J_mono (jg_Mo_106 C hy0 (jd jdt_Mo_closes 48 rfl)) ?_
            refine J_mono (w_iload_n C (jd jdt_Mo_closes 49 rfl) rfl) ?_
            refine J_mono (w_iload C (jd jdt_Mo_closes 50 rfl) rfl) ?_
            refine J_mono (w_iadd C (jd jdt_Mo_closes 51 rfl)) ?_
            refine J_bind (fun v8 hv8 => ?_)
            refine J_mono (w_iald C (jkf_12_43 hy0) hv8 (jd jdt_Mo_closes 52 rfl)) ?_
            refine J_bind (fun q9 hq9 => ?_)
            refine J_mono (jc_Mo_294 C hy0 (C_Mo_barIs l G F y0 v8 hy0 M hq9) rfl (Nat.le_trans (Nat.le_of_ble_eq_true rfl : 1 + 1 ≤ 5) hD) (jd jdt_Mo_closes 53 rfl)) ?_
            refine J_mono (w_iinc (v := x4 + 1) (ls' := [some (.ref y0), some (.int y1), some (.int y2), some (.int y3), some (.int (x4 + 1))]) C (jd jdt_Mo_closes 54 rfl) rfl rfl (by decide) rfl rfl) ?_
            refine J_mono (w_goto C (jd jdt_Mo_closes 55 rfl) rfl) ?_
            exact J_sub (ih (x4 + 1) q9) ⟨rfl, rfl, rfl, rfl, rfl, trivial⟩
          · exact J_some (fun hx => Wk_sb hx ⟨rfl, rfl, rfl, rfl, trivial⟩)
        · exact J_some (fun hx => Wk_sb hx ⟨rfl, rfl, rfl, rfl, trivial⟩)
    refine J_seq (fun (q10 : SM) => Wk p l e R s m args below meth c G 5 Q 0 0 jN0 (jce G q10) 98 [some (.ref a0), some (.int q3.1), some (.int v5), some (.int (((sI q3.2 a0 46 ((q3.2.1 a0 46) - 1)).1 a0 44) - v5)), none] []) (J_sub (L60 a0 q3.1 v5 (((sI q3.2 a0 46 ((q3.2.1 a0 46) - 1)).1 a0 44) - v5) hp0 jfuel 0 (sI q3.2 a0 46 ((q3.2.1 a0 46) - 1))) ⟨rfl, rfl, rfl, rfl, rfl, trivial⟩) (fun q10 hq10 => ?_)
    refine J_mono (w_aload_n C (jd jdt_Mo_closes 56 rfl) rfl) ?_
    refine J_mono (w_iload_n C (jd jdt_Mo_closes 57 rfl) rfl) ?_
    refine J_mono (w_iload_n C (jd jdt_Mo_closes 58 rfl) rfl) ?_
    refine J_mono (w_iload_n C (jd jdt_Mo_closes 59 rfl) rfl) ?_
    refine J_mono (w_imul C (jd jdt_Mo_closes 60 rfl)) ?_
    refine J_mono (w_iadd C (jd jdt_Mo_closes 61 rfl)) ?_
    refine J_mono (jp_Mo_287 C F hp0 (jd jdt_Mo_closes 62 rfl)) ?_
    exact J_some (fun hx => hR (sI q10 a0 44 (v5 + ((((sI q3.2 a0 46 ((q3.2.1 a0 46) - 1)).1 a0 44) - v5) * q3.1))) hx _ _ (jd jdt_Mo_closes 63 rfl))
  · exact J_some (fun hx => hR q3.2 hx _ _ (jd jdt_Mo_closes 15 rfl))
end
theorem C_Mo_closes (l : Launch) (G : JG) (F : jF G = false) (a0 : Nat) (hp0 : jkd a0 12) (M : SM) {q : SM} (hf : f_Mo_closes a0 M = some q) : jMet l jy_Mo_closes jb_Mo_closes 5 none 5 0 0 G [.ref a0] jN0 (jce G M) none jN0 (jce G q) :=
  j_met jo_Mo_closes (by decide) (Nat.le_of_ble_eq_true rfl) (fun p e s m args below meth c C hr hm => K_Mo_closes C F (Nat.le_refl _) a0 hp0 M (fun t => t = q) (fun M' hX pc ls hd => by cases hX; exact w_vret C hr hd) _ hf rfl)
def lp_Mo_groupTold_48 (y0 : Nat) : Nat → SM → Option (SM)
  | 0, _ => none
  | n + 1, M => if (M.1 y0 5) = 0 then (if 0 < (M.1 y0 46) then ((f_Mo_look y0 M).bind fun q10 => if q10.1 = 41 then ((f_Mo_closes y0 q10.2).bind fun q12 => lp_Mo_groupTold_48 y0 n q12) else (some q10.2)) else (some M)) else (some M)
def lp_Mo_groupTold_17 (y0 : Nat) : Nat → Int32 → SM → Option (SM)
  | 0, _, _ => none
  | n + 1, x3, M => if (M.1 y0 5) = 0 then (if x3 = 0 then (some M) else ((f_Mo_look y0 M).bind fun q4 => if q4.1 = 40 then ((f_Mo_opens y0 q4.2).bind fun q6 => lp_Mo_groupTold_17 y0 n x3 q6) else ((f_Mo_barsTold y0 q4.2).bind fun q7 => (lp_Mo_groupTold_48 y0 jfuel q7).bind fun q13 => (if 0 < (q13.1 y0 46) then (some 1) else (some 0) : Option (Int32)).bind fun q14 => lp_Mo_groupTold_17 y0 n q14 q13))) else (some M)
def f_Mo_groupTold (a0 : Nat) (M : SM) : Option SM := (f_Mo_look a0 M).bind fun q1 => (lp_Mo_groupTold_17 a0 jfuel 1 (sI q1.2 a0 46 0)).bind fun q16 => if (q16.1 a0 5) = 0 then (if 60 < (q16.1 a0 44) then ((f_Mo_fail a0 5 (q1.2.1 a0 2) q16).bind fun q19 => some q19) else (some q16)) else (some q16)
section
variable {p : Program} {l : Launch} {e : Env} {R : Room} {s : State} {m : MethodId} {args : Array Value} {below : List Frame} {meth : Method} {c : Code} {G : JG} {D : Nat} {Q : State → Prop}
set_option maxHeartbeats 4000000 in
set_option maxRecDepth 20000 in
theorem K_Mo_groupTold (C : jCx p R s m args meth c G jb_Mo_groupTold 4 D "SluicePitModel") (F : jF G = false) (hD : 6 ≤ D) (a0 : Nat) (hp0 : jkd a0 12) (M : SM) (X : SM → Prop) (hR : ∀ M', X M' → ∀ (pc : Nat) (ls : List (Option Value)), decode jb_Mo_groupTold pc = .ok (.return_, 1) → Wk p l e R s m args below meth c G 4 Q 0 0 jN0 (jce G M') pc ls []) : J X (f_Mo_groupTold a0 M) (Wk p l e R s m args below meth c G 4 Q 0 0 jN0 (jce G M) 0 [some (.ref a0), none, none, none] []) := by
  unfold f_Mo_groupTold
  refine J_mono (w_aload_n C (jd jdt_Mo_groupTold 0 rfl) rfl) ?_
  refine J_bind (fun q1 hq1 => ?_)
  refine J_mono (jc_Mo_230 C hp0 (C_Mo_look l G F a0 hp0 M hq1) rfl (Nat.le_trans (Nat.le_of_ble_eq_true rfl : 1 + 1 ≤ 6) hD) (jd jdt_Mo_groupTold 1 rfl)) ?_
  refine J_mono (w_istore_n (ls' := [some (.ref a0), some (.int q1.1), none, none]) C (jd jdt_Mo_groupTold 2 rfl) (by decide) rfl rfl) ?_
  refine J_mono (w_aload_n C (jd jdt_Mo_groupTold 3 rfl) rfl) ?_
  refine J_mono (jg_Mo_224 C hp0 (jd jdt_Mo_groupTold 4 rfl)) ?_
  refine J_mono (w_istore_n (ls' := [some (.ref a0), some (.int q1.1), some (.int (q1.2.1 a0 2)), none]) C (jd jdt_Mo_groupTold 5 rfl) (by decide) rfl rfl) ?_
  refine J_mono (w_aload_n C (jd jdt_Mo_groupTold 6 rfl) rfl) ?_
  refine J_mono (w_iconst_0 C (jd jdt_Mo_groupTold 7 rfl)) ?_
  refine J_mono (jp_Mo_298 C F hp0 (jd jdt_Mo_groupTold 8 rfl)) ?_
  refine J_mono (w_iconst_1 C (jd jdt_Mo_groupTold 9 rfl)) ?_
  refine J_mono (w_istore_n (ls' := [some (.ref a0), some (.int q1.1), some (.int (q1.2.1 a0 2)), some (.int 1)]) C (jd jdt_Mo_groupTold 10 rfl) (by decide) rfl rfl) ?_
  have L17 : ∀ (y0 : Nat) (y2 : Int32) (hy0 : jkd y0 12) (n : Nat) (x3 : Int32) (M : SM), J (fun (q16 : SM) => Wk p l e R s m args below meth c G 4 Q 0 0 jN0 (jce G q16) 94 [some (.ref y0), none, some (.int y2), none] []) (lp_Mo_groupTold_17 y0 n x3 M) (Wk p l e R s m args below meth c G 4 Q 0 0 jN0 (jce G M) 17 [some (.ref y0), none, some (.int y2), some (.int x3)] []) := by
    intro y0 y2 hy0 n
    induction n with
    | zero => intro x3 M; exact J_none
    | succ n ih =>
      intro x3 M
      unfold lp_Mo_groupTold_17
      refine J_mono (w_aload_n C (jd jdt_Mo_groupTold 11 rfl) rfl) ?_
      refine J_mono (jg_Mo_218 C hy0 (jd jdt_Mo_groupTold 12 rfl)) ?_
      refine J_br (w_if_ne (y := 0) C (jd jdt_Mo_groupTold 13 rfl) rfl) (fun h2 => J_pos h2 ?_) (fun h2 => J_neg h2 ?_)
      · refine J_mono (w_iload_n C (jd jdt_Mo_groupTold 14 rfl) rfl) ?_
        refine J_br (w_if_eq (y := 0) C (jd jdt_Mo_groupTold 15 rfl) rfl) (fun h3 => J_pos h3 ?_) (fun h3 => J_neg h3 ?_)
        · exact J_some (fun hx => Wk_sb hx ⟨rfl, rfl, trivial⟩)
        · refine J_mono (w_aload_n C (jd jdt_Mo_groupTold 16 rfl) rfl) ?_
          refine J_bind (fun q4 hq4 => ?_)
          refine J_mono (jc_Mo_230 C hy0 (C_Mo_look l G F y0 hy0 M hq4) rfl (Nat.le_trans (Nat.le_of_ble_eq_true rfl : 1 + 1 ≤ 6) hD) (jd jdt_Mo_groupTold 17 rfl)) ?_
          refine J_mono (w_bipush_40 C (jd jdt_Mo_groupTold 18 rfl)) ?_
          refine J_br (w_icmp_ne C (jd jdt_Mo_groupTold 19 rfl) rfl) (fun h5 => J_pos h5 ?_) (fun h5 => J_neg h5 ?_)
          · refine J_mono (w_aload_n C (jd jdt_Mo_groupTold 20 rfl) rfl) ?_
            refine J_bind (fun q6 hq6 => ?_)
            refine J_mono (jc_Mo_308 C hy0 (C_Mo_opens l G F y0 hy0 q4.2 hq6) rfl (Nat.le_trans (Nat.le_of_ble_eq_true rfl : 4 + 1 ≤ 6) hD) (jd jdt_Mo_groupTold 21 rfl)) ?_
            refine J_mono (w_goto C (jd jdt_Mo_groupTold 22 rfl) rfl) ?_
            exact J_sub (ih x3 q6) ⟨rfl, rfl, rfl, trivial⟩
          · refine J_mono (w_aload_n C (jd jdt_Mo_groupTold 23 rfl) rfl) ?_
            refine J_bind (fun q7 hq7 => ?_)
            refine J_mono (jc_Mo_311 C hy0 (C_Mo_barsTold l G F y0 hy0 q4.2 hq7) rfl (Nat.le_trans (Nat.le_of_ble_eq_true rfl : 2 + 1 ≤ 6) hD) (jd jdt_Mo_groupTold 24 rfl)) ?_
            have L48 : ∀ (y0 : Nat) (y2 : Int32) (hy0 : jkd y0 12) (n : Nat)  (M : SM), J (fun (q13 : SM) => Wk p l e R s m args below meth c G 4 Q 0 0 jN0 (jce G q13) 78 [some (.ref y0), none, some (.int y2), none] []) (lp_Mo_groupTold_48 y0 n M) (Wk p l e R s m args below meth c G 4 Q 0 0 jN0 (jce G M) 48 [some (.ref y0), none, some (.int y2), none] []) := by
              intro y0 y2 hy0 n
              induction n with
              | zero => intro  M; exact J_none
              | succ n ih =>
                intro  M
                unfold lp_Mo_groupTold_48
                refine J_mono (w_aload_n C (jd jdt_Mo_groupTold 25 rfl) rfl) ?_
                refine J_mono (jg_Mo_218 C hy0 (jd jdt_Mo_groupTold 26 rfl)) ?_
                refine J_br (w_if_ne (y := 0) C (jd jdt_Mo_groupTold 27 rfl) rfl) (fun h8 => J_pos h8 ?_) (fun h8 => J_neg h8 ?_)
                · refine J_mono (w_aload_n C (jd jdt_Mo_groupTold 28 rfl) rfl) ?_
                  refine J_mono (jg_Mo_298 C hy0 (jd jdt_Mo_groupTold 29 rfl)) ?_
                  refine J_br (w_if_le (y := 0) C (jd jdt_Mo_groupTold 30 rfl) rfl) (fun h9 => J_pos h9 ?_) (fun h9 => J_neg h9 ?_)
                  · refine J_mono (w_aload_n C (jd jdt_Mo_groupTold 31 rfl) rfl) ?_
                    refine J_bind (fun q10 hq10 => ?_)
                    refine J_mono (jc_Mo_230 C hy0 (C_Mo_look l G F y0 hy0 M hq10) rfl (Nat.le_trans (Nat.le_of_ble_eq_true rfl : 1 + 1 ≤ 6) hD) (jd jdt_Mo_groupTold 32 rfl)) ?_
                    refine J_mono (w_bipush_41 C (jd jdt_Mo_groupTold 33 rfl)) ?_
                    refine J_br (w_icmp_ne C (jd jdt_Mo_groupTold 34 rfl) rfl) (fun h11 => J_pos h11 ?_) (fun h11 => J_neg h11 ?_)
                    · refine J_mono (w_aload_n C (jd jdt_Mo_groupTold 35 rfl) rfl) ?_
                      refine J_bind (fun q12 hq12 => ?_)
                      refine J_mono (jc_Mo_314 C hy0 (C_Mo_closes l G F y0 hy0 q10.2 hq12) rfl (Nat.le_trans (Nat.le_of_ble_eq_true rfl : 5 + 1 ≤ 6) hD) (jd jdt_Mo_groupTold 36 rfl)) ?_
                      refine J_mono (w_goto C (jd jdt_Mo_groupTold 37 rfl) rfl) ?_
                      exact J_sub (ih q12) ⟨rfl, rfl, trivial⟩
                    · exact J_some (fun hx => Wk_sb hx ⟨rfl, rfl, trivial⟩)
                  · exact J_some (fun hx => Wk_sb hx ⟨rfl, rfl, trivial⟩)
                · exact J_some (fun hx => Wk_sb hx ⟨rfl, rfl, trivial⟩)
            refine J_seq (fun (q13 : SM) => Wk p l e R s m args below meth c G 4 Q 0 0 jN0 (jce G q13) 78 [some (.ref y0), none, some (.int y2), none] []) (J_sub (L48 y0 y2 hy0 jfuel q7) ⟨rfl, rfl, trivial⟩) (fun q13 hq13 => ?_)
            refine J_mono (w_aload_n C (jd jdt_Mo_groupTold 38 rfl) rfl) ?_
            refine J_mono (jg_Mo_298 C hy0 (jd jdt_Mo_groupTold 39 rfl)) ?_
            refine J_seq (fun (q14 : Int32) => Wk p l e R s m args below meth c G 4 Q 0 0 jN0 (jce G q13) 90 [some (.ref y0), none, some (.int y2), none] [.int q14]) ?_ (fun q14 hq14 => ?_)
            · refine J_br (w_if_le (y := 0) C (jd jdt_Mo_groupTold 40 rfl) rfl) (fun h15 => J_pos h15 ?_) (fun h15 => J_neg h15 ?_)
              · refine J_mono (w_iconst_1 C (jd jdt_Mo_groupTold 41 rfl)) ?_
                refine J_mono (w_goto C (jd jdt_Mo_groupTold 42 rfl) rfl) ?_
                exact J_some (fun hx => Wk_sb hx ⟨rfl, rfl, trivial⟩)
              · refine J_mono (w_iconst_0 C (jd jdt_Mo_groupTold 43 rfl)) ?_
                exact J_some (fun hx => Wk_sb hx ⟨rfl, rfl, trivial⟩)
            · refine J_mono (w_istore_n (ls' := [some (.ref y0), none, some (.int y2), some (.int q14)]) C (jd jdt_Mo_groupTold 44 rfl) (by decide) rfl rfl) ?_
              refine J_mono (w_goto C (jd jdt_Mo_groupTold 45 rfl) rfl) ?_
              exact J_sub (ih q14 q13) ⟨rfl, rfl, rfl, trivial⟩
      · exact J_some (fun hx => Wk_sb hx ⟨rfl, rfl, trivial⟩)
  refine J_seq (fun (q16 : SM) => Wk p l e R s m args below meth c G 4 Q 0 0 jN0 (jce G q16) 94 [some (.ref a0), none, some (.int (q1.2.1 a0 2)), none] []) (J_sub (L17 a0 (q1.2.1 a0 2) hp0 jfuel 1 (sI q1.2 a0 46 0)) ⟨rfl, rfl, rfl, trivial⟩) (fun q16 hq16 => ?_)
  refine J_mono (w_aload_n C (jd jdt_Mo_groupTold 46 rfl) rfl) ?_
  refine J_mono (jg_Mo_218 C hp0 (jd jdt_Mo_groupTold 47 rfl)) ?_
  refine J_br (w_if_ne (y := 0) C (jd jdt_Mo_groupTold 48 rfl) rfl) (fun h17 => J_pos h17 ?_) (fun h17 => J_neg h17 ?_)
  · refine J_mono (w_aload_n C (jd jdt_Mo_groupTold 49 rfl) rfl) ?_
    refine J_mono (jg_Mo_287 C hp0 (jd jdt_Mo_groupTold 50 rfl)) ?_
    refine J_mono (w_bipush_60 C (jd jdt_Mo_groupTold 51 rfl)) ?_
    refine J_br (w_icmp_le C (jd jdt_Mo_groupTold 52 rfl) rfl) (fun h18 => J_pos h18 ?_) (fun h18 => J_neg h18 ?_)
    · refine J_mono (w_aload_n C (jd jdt_Mo_groupTold 53 rfl) rfl) ?_
      refine J_mono (w_iconst_5 C (jd jdt_Mo_groupTold 54 rfl)) ?_
      refine J_mono (w_iload_n C (jd jdt_Mo_groupTold 55 rfl) rfl) ?_
      refine J_bind (fun q19 hq19 => ?_)
      refine J_mono (jc_Mo_248 C hp0 (C_Mo_fail l G F a0 5 (q1.2.1 a0 2) hp0 q16 hq19) rfl (Nat.le_trans (Nat.le_of_ble_eq_true rfl : 1 + 1 ≤ 6) hD) (jd jdt_Mo_groupTold 56 rfl)) ?_
      exact J_some (fun hx => hR q19 hx _ _ (jd jdt_Mo_groupTold 57 rfl))
    · exact J_some (fun hx => hR q16 hx _ _ (jd jdt_Mo_groupTold 57 rfl))
  · exact J_some (fun hx => hR q16 hx _ _ (jd jdt_Mo_groupTold 57 rfl))
end
theorem C_Mo_groupTold (l : Launch) (G : JG) (F : jF G = false) (a0 : Nat) (hp0 : jkd a0 12) (M : SM) {q : SM} (hf : f_Mo_groupTold a0 M = some q) : jMet l jy_Mo_groupTold jb_Mo_groupTold 4 none 6 0 0 G [.ref a0] jN0 (jce G M) none jN0 (jce G q) :=
  j_met jo_Mo_groupTold (by decide) (Nat.le_of_ble_eq_true rfl) (fun p e s m args below meth c C hr hm => K_Mo_groupTold C F (Nat.le_refl _) a0 hp0 M (fun t => t = q) (fun M' hX pc ls hd => by cases hX; exact w_vret C hr hd) _ hf rfl)
def lp_Mo_partTold_5 (y0 : Nat) : Nat → SM → Option (SM)
  | 0, _ => none
  | n + 1, M => (f_Mo_groupTold y0 M).bind fun q1 => if (q1.1 y0 5) = 0 then ((f_Mo_look y0 q1).bind fun q3 => if q3.1 = 40 then (lp_Mo_partTold_5 y0 n q3.2) else ((f_Mo_look y0 q3.2).bind fun q5 => (f_Mo_isLetter q5.1).bind fun q6 => if q6 = 0 then (some q5.2) else (lp_Mo_partTold_5 y0 n q5.2))) else (some q1)
def f_Mo_partTold (a0 : Nat) (M : SM) : Option SM := (lp_Mo_partTold_5 a0 jfuel (sI M a0 44 0)).bind fun q8 => some q8
section
variable {p : Program} {l : Launch} {e : Env} {R : Room} {s : State} {m : MethodId} {args : Array Value} {below : List Frame} {meth : Method} {c : Code} {G : JG} {D : Nat} {Q : State → Prop}
set_option maxHeartbeats 4000000 in
set_option maxRecDepth 20000 in
theorem K_Mo_partTold (C : jCx p R s m args meth c G jb_Mo_partTold 1 D "SluicePitModel") (F : jF G = false) (hD : 7 ≤ D) (a0 : Nat) (hp0 : jkd a0 12) (M : SM) (X : SM → Prop) (hR : ∀ M', X M' → ∀ (pc : Nat) (ls : List (Option Value)), decode jb_Mo_partTold pc = .ok (.return_, 1) → Wk p l e R s m args below meth c G 1 Q 0 0 jN0 (jce G M') pc ls []) : J X (f_Mo_partTold a0 M) (Wk p l e R s m args below meth c G 1 Q 0 0 jN0 (jce G M) 0 [some (.ref a0)] []) := by
  unfold f_Mo_partTold
  refine J_mono (w_aload_n C (jd jdt_Mo_partTold 0 rfl) rfl) ?_
  refine J_mono (w_iconst_0 C (jd jdt_Mo_partTold 1 rfl)) ?_
  refine J_mono (jp_Mo_287 C F hp0 (jd jdt_Mo_partTold 2 rfl)) ?_
  have L5 : ∀ (y0 : Nat) (hy0 : jkd y0 12) (n : Nat)  (M : SM), J (fun (q8 : SM) => Wk p l e R s m args below meth c G 1 Q 0 0 jN0 (jce G q8) 35 [none] []) (lp_Mo_partTold_5 y0 n M) (Wk p l e R s m args below meth c G 1 Q 0 0 jN0 (jce G M) 5 [some (.ref y0)] []) := by
    intro y0 hy0 n
    induction n with
    | zero => intro  M; exact J_none
    | succ n ih =>
      intro  M
      unfold lp_Mo_partTold_5
      refine J_mono (w_aload_n C (jd jdt_Mo_partTold 3 rfl) rfl) ?_
      refine J_bind (fun q1 hq1 => ?_)
      refine J_mono (jc_Mo_317 C hy0 (C_Mo_groupTold l G F y0 hy0 M hq1) rfl (Nat.le_trans (Nat.le_of_ble_eq_true rfl : 6 + 1 ≤ 7) hD) (jd jdt_Mo_partTold 4 rfl)) ?_
      refine J_mono (w_aload_n C (jd jdt_Mo_partTold 5 rfl) rfl) ?_
      refine J_mono (jg_Mo_218 C hy0 (jd jdt_Mo_partTold 6 rfl)) ?_
      refine J_br (w_if_ne (y := 0) C (jd jdt_Mo_partTold 7 rfl) rfl) (fun h2 => J_pos h2 ?_) (fun h2 => J_neg h2 ?_)
      · refine J_mono (w_aload_n C (jd jdt_Mo_partTold 8 rfl) rfl) ?_
        refine J_bind (fun q3 hq3 => ?_)
        refine J_mono (jc_Mo_230 C hy0 (C_Mo_look l G F y0 hy0 q1 hq3) rfl (Nat.le_trans (Nat.le_of_ble_eq_true rfl : 1 + 1 ≤ 7) hD) (jd jdt_Mo_partTold 9 rfl)) ?_
        refine J_mono (w_bipush_40 C (jd jdt_Mo_partTold 10 rfl)) ?_
        refine J_br (w_icmp_eq C (jd jdt_Mo_partTold 11 rfl) rfl) (fun h4 => J_pos h4 ?_) (fun h4 => J_neg h4 ?_)
        · exact J_sub (ih q3.2) ⟨rfl, trivial⟩
        · refine J_mono (w_aload_n C (jd jdt_Mo_partTold 12 rfl) rfl) ?_
          refine J_bind (fun q5 hq5 => ?_)
          refine J_mono (jc_Mo_230 C hy0 (C_Mo_look l G F y0 hy0 q3.2 hq5) rfl (Nat.le_trans (Nat.le_of_ble_eq_true rfl : 1 + 1 ≤ 7) hD) (jd jdt_Mo_partTold 13 rfl)) ?_
          refine J_bind (fun q6 hq6 => ?_)
          refine J_mono (jc_Mo_234 C (C_Mo_isLetter l G F q5.1 q5.2 hq6) rfl (Nat.le_trans (Nat.le_of_ble_eq_true rfl : 1 + 1 ≤ 7) hD) (jd jdt_Mo_partTold 14 rfl)) ?_
          refine J_br (w_if_ne (y := 0) C (jd jdt_Mo_partTold 15 rfl) rfl) (fun h7 => J_pos h7 ?_) (fun h7 => J_neg h7 ?_)
          · exact J_some (fun hx => Wk_sb hx trivial)
          · exact J_sub (ih q5.2) ⟨rfl, trivial⟩
      · exact J_some (fun hx => Wk_sb hx trivial)
  refine J_seq (fun (q8 : SM) => Wk p l e R s m args below meth c G 1 Q 0 0 jN0 (jce G q8) 35 [none] []) (J_sub (L5 a0 hp0 jfuel (sI M a0 44 0)) ⟨rfl, trivial⟩) (fun q8 hq8 => ?_)
  exact J_some (fun hx => hR q8 hx _ _ (jd jdt_Mo_partTold 16 rfl))
end
theorem C_Mo_partTold (l : Launch) (G : JG) (F : jF G = false) (a0 : Nat) (hp0 : jkd a0 12) (M : SM) {q : SM} (hf : f_Mo_partTold a0 M = some q) : jMet l jy_Mo_partTold jb_Mo_partTold 1 none 7 0 0 G [.ref a0] jN0 (jce G M) none jN0 (jce G q) :=
  j_met jo_Mo_partTold (by decide) (Nat.le_of_ble_eq_true rfl) (fun p e s m args below meth c C hr hm => K_Mo_partTold C F (Nat.le_refl _) a0 hp0 M (fun t => t = q) (fun M' hX pc ls hd => by cases hX; exact w_vret C hr hd) _ hf rfl)
def lp_Mo_deskTold_92 (y0 : Nat) (y2 : Int32) : Nat → Int32 → SM → Option (SM)
  | 0, _, _ => none
  | n + 1, x6, M => if x6 < (M.1 y0 44) then ((aI M (jpf y0 43) x6).bind fun v14 => (aS M (jpf y0 36) (((61 * y2) + 1) + x6) v14).bind fun M15 => lp_Mo_deskTold_92 y0 y2 n (x6 + 1) M15) else (some M)
def f_Mo_deskTold (a0 : Nat) (a1 : Int32) (M : SM) : Option SM := (f_Mo_isFull a0 0 8 a1 M).bind fun q1 => if q1.1 = 0 then ((aI q1.2 (jpf a0 28) 0).bind fun v3 => (f_Mo_newName a0 q1.2).bind fun q4 => (f_Mo_asks a0 (jpf a0 15) q4.2).bind fun q5 => (f_Mo_number a0 1 9 q5).bind fun q6 => (f_Mo_asks a0 (jpf a0 16) q6.2).bind fun q7 => (f_Mo_partTold a0 q7).bind fun q8 => if (q8.1 a0 5) = 0 then ((aSL q8 (jpf a0 29) v3 q4.1).bind fun M10 => (aS M10 (jpf a0 35) v3 q6.1).bind fun M11 => (aS M11 (jpf a0 36) (61 * v3) (M11.1 a0 44)).bind fun M12 => (lp_Mo_deskTold_92 a0 v3 jfuel 0 M12).bind fun q16 => (aI q16 (jpf a0 28) 0).bind fun v17 => (aS q16 (jpf a0 28) 0 (v17 + 1)).bind fun M18 => some M18) else (some q8)) else (some q1.2)
section
variable {p : Program} {l : Launch} {e : Env} {R : Room} {s : State} {m : MethodId} {args : Array Value} {below : List Frame} {meth : Method} {c : Code} {G : JG} {D : Nat} {Q : State → Prop}
set_option maxHeartbeats 4000000 in
set_option maxRecDepth 20000 in
theorem K_Mo_deskTold (C : jCx p R s m args meth c G jb_Mo_deskTold 7 D "SluicePitModel") (F : jF G = false) (hD : 8 ≤ D) (a0 : Nat) (a1 : Int32) (hp0 : jkd a0 12) (M : SM) (X : SM → Prop) (hR : ∀ M', X M' → ∀ (pc : Nat) (ls : List (Option Value)), decode jb_Mo_deskTold pc = .ok (.return_, 1) → Wk p l e R s m args below meth c G 7 Q 0 0 jN0 (jce G M') pc ls []) : J X (f_Mo_deskTold a0 a1 M) (Wk p l e R s m args below meth c G 7 Q 0 0 jN0 (jce G M) 0 [some (.ref a0), some (.int a1), none, none, none, none, none] []) := by
  unfold f_Mo_deskTold
  refine J_mono (w_aload_n C (jd jdt_Mo_deskTold 0 rfl) rfl) ?_
  refine J_mono (w_iconst_0 C (jd jdt_Mo_deskTold 1 rfl)) ?_
  refine J_mono (w_bipush_8 C (jd jdt_Mo_deskTold 2 rfl)) ?_
  refine J_mono (w_iload_n C (jd jdt_Mo_deskTold 3 rfl) rfl) ?_
  refine J_bind (fun q1 hq1 => ?_)
  refine J_mono (jc_Mo_320 C hp0 (C_Mo_isFull l G F a0 0 8 a1 hp0 M hq1) rfl (Nat.le_trans (Nat.le_of_ble_eq_true rfl : 2 + 1 ≤ 8) hD) (jd jdt_Mo_deskTold 4 rfl)) ?_
  refine J_br (w_if_eq (y := 0) C (jd jdt_Mo_deskTold 5 rfl) rfl) (fun h2 => J_pos h2 ?_) (fun h2 => J_neg h2 ?_)
  · refine J_mono (w_aload_n C (jd jdt_Mo_deskTold 7 rfl) rfl) ?_
    refine J_mono (jg_Mo_69 C hp0 (jd jdt_Mo_deskTold 8 rfl)) ?_
    refine J_mono (w_iconst_0 C (jd jdt_Mo_deskTold 9 rfl)) ?_
    refine J_bind (fun v3 hv3 => ?_)
    refine J_mono (w_iald C (jkf_12_28 hp0) hv3 (jd jdt_Mo_deskTold 10 rfl)) ?_
    refine J_mono (w_istore_n (ls' := [some (.ref a0), some (.int a1), some (.int v3), none, none, none, none]) C (jd jdt_Mo_deskTold 11 rfl) (by decide) rfl rfl) ?_
    refine J_mono (w_aload_n C (jd jdt_Mo_deskTold 12 rfl) rfl) ?_
    refine J_bind (fun q4 hq4 => ?_)
    refine J_mono (jc_Mo_324 C hp0 (C_Mo_newName l G F a0 hp0 q1.2 hq4) rfl (Nat.le_trans (Nat.le_of_ble_eq_true rfl : 5 + 1 ≤ 8) hD) (jd jdt_Mo_deskTold 13 rfl)) ?_
    refine J_mono (w_lstore_n (ls' := [some (.ref a0), some (.int a1), some (.int v3), some (.long q4.1), none, none, none]) C (jd jdt_Mo_deskTold 14 rfl) (by decide) rfl rfl) ?_
    refine J_mono (w_aload_n C (jd jdt_Mo_deskTold 15 rfl) rfl) ?_
    refine J_mono (w_aload_n C (jd jdt_Mo_deskTold 16 rfl) rfl) ?_
    refine J_mono (jg_Mo_33 C hp0 (jd jdt_Mo_deskTold 17 rfl)) ?_
    refine J_bind (fun q5 hq5 => ?_)
    refine J_mono (jc_Mo_304 C hp0 (C_Mo_asks l G F a0 (jpf a0 15) hp0 (jkf_12_15 hp0) q4.2 hq5) rfl (Nat.le_trans (Nat.le_of_ble_eq_true rfl : 4 + 1 ≤ 8) hD) (jd jdt_Mo_deskTold 18 rfl)) ?_
    refine J_mono (w_aload_n C (jd jdt_Mo_deskTold 19 rfl) rfl) ?_
    refine J_mono (w_iconst_1 C (jd jdt_Mo_deskTold 20 rfl)) ?_
    refine J_mono (w_bipush_9 C (jd jdt_Mo_deskTold 21 rfl)) ?_
    refine J_bind (fun q6 hq6 => ?_)
    refine J_mono (jc_Mo_283 C hp0 (C_Mo_number l G F a0 1 9 hp0 q5 hq6) rfl (Nat.le_trans (Nat.le_of_ble_eq_true rfl : 2 + 1 ≤ 8) hD) (jd jdt_Mo_deskTold 22 rfl)) ?_
    refine J_mono (w_istore (ls' := [some (.ref a0), some (.int a1), some (.int v3), some (.long q4.1), none, some (.int q6.1), none]) C (jd jdt_Mo_deskTold 23 rfl) (by decide) rfl rfl) ?_
    refine J_mono (w_aload_n C (jd jdt_Mo_deskTold 24 rfl) rfl) ?_
    refine J_mono (w_aload_n C (jd jdt_Mo_deskTold 25 rfl) rfl) ?_
    refine J_mono (jg_Mo_36 C hp0 (jd jdt_Mo_deskTold 26 rfl)) ?_
    refine J_bind (fun q7 hq7 => ?_)
    refine J_mono (jc_Mo_304 C hp0 (C_Mo_asks l G F a0 (jpf a0 16) hp0 (jkf_12_16 hp0) q6.2 hq7) rfl (Nat.le_trans (Nat.le_of_ble_eq_true rfl : 4 + 1 ≤ 8) hD) (jd jdt_Mo_deskTold 27 rfl)) ?_
    refine J_mono (w_aload_n C (jd jdt_Mo_deskTold 28 rfl) rfl) ?_
    refine J_bind (fun q8 hq8 => ?_)
    refine J_mono (jc_Mo_327 C hp0 (C_Mo_partTold l G F a0 hp0 q7 hq8) rfl (Nat.le_trans (Nat.le_of_ble_eq_true rfl : 7 + 1 ≤ 8) hD) (jd jdt_Mo_deskTold 29 rfl)) ?_
    refine J_mono (w_aload_n C (jd jdt_Mo_deskTold 30 rfl) rfl) ?_
    refine J_mono (jg_Mo_218 C hp0 (jd jdt_Mo_deskTold 31 rfl)) ?_
    refine J_br (w_if_eq (y := 0) C (jd jdt_Mo_deskTold 32 rfl) rfl) (fun h9 => J_pos h9 ?_) (fun h9 => J_neg h9 ?_)
    · refine J_mono (w_aload_n C (jd jdt_Mo_deskTold 34 rfl) rfl) ?_
      refine J_mono (jg_Mo_72 C hp0 (jd jdt_Mo_deskTold 35 rfl)) ?_
      refine J_mono (w_iload_n C (jd jdt_Mo_deskTold 36 rfl) rfl) ?_
      refine J_mono (w_lload_n C (jd jdt_Mo_deskTold 37 rfl) rfl) ?_
      refine J_bind (fun M10 hM10 => ?_)
      refine J_mono (w_last C F (jkf_12_29 hp0) hM10 (jd jdt_Mo_deskTold 38 rfl)) ?_
      refine J_mono (w_aload_n C (jd jdt_Mo_deskTold 39 rfl) rfl) ?_
      refine J_mono (jg_Mo_85 C hp0 (jd jdt_Mo_deskTold 40 rfl)) ?_
      refine J_mono (w_iload_n C (jd jdt_Mo_deskTold 41 rfl) rfl) ?_
      refine J_mono (w_iload C (jd jdt_Mo_deskTold 42 rfl) rfl) ?_
      refine J_bind (fun M11 hM11 => ?_)
      refine J_mono (w_iast C F (jkf_12_35 hp0) hM11 (jd jdt_Mo_deskTold 43 rfl)) ?_
      refine J_mono (w_aload_n C (jd jdt_Mo_deskTold 44 rfl) rfl) ?_
      refine J_mono (jg_Mo_88 C hp0 (jd jdt_Mo_deskTold 45 rfl)) ?_
      refine J_mono (w_bipush_61 C (jd jdt_Mo_deskTold 46 rfl)) ?_
      refine J_mono (w_iload_n C (jd jdt_Mo_deskTold 47 rfl) rfl) ?_
      refine J_mono (w_imul C (jd jdt_Mo_deskTold 48 rfl)) ?_
      refine J_mono (w_aload_n C (jd jdt_Mo_deskTold 49 rfl) rfl) ?_
      refine J_mono (jg_Mo_287 C hp0 (jd jdt_Mo_deskTold 50 rfl)) ?_
      refine J_bind (fun M12 hM12 => ?_)
      refine J_mono (w_iast C F (jkf_12_36 hp0) hM12 (jd jdt_Mo_deskTold 51 rfl)) ?_
      refine J_mono (w_iconst_0 C (jd jdt_Mo_deskTold 52 rfl)) ?_
      refine J_mono (w_istore (ls' := [some (.ref a0), some (.int a1), some (.int v3), some (.long q4.1), none, some (.int q6.1), some (.int 0)]) C (jd jdt_Mo_deskTold 53 rfl) (by decide) rfl rfl) ?_
      have L92 : ∀ (y0 : Nat) (y2 : Int32) (hy0 : jkd y0 12) (n : Nat) (x6 : Int32) (M : SM), J (fun (q16 : SM) => Wk p l e R s m args below meth c G 7 Q 0 0 jN0 (jce G q16) 128 [some (.ref y0), none, none, none, none, none, none] []) (lp_Mo_deskTold_92 y0 y2 n x6 M) (Wk p l e R s m args below meth c G 7 Q 0 0 jN0 (jce G M) 92 [some (.ref y0), none, some (.int y2), none, none, none, some (.int x6)] []) := by
        intro y0 y2 hy0 n
        induction n with
        | zero => intro x6 M; exact J_none
        | succ n ih =>
          intro x6 M
          unfold lp_Mo_deskTold_92
          refine J_mono (w_iload C (jd jdt_Mo_deskTold 54 rfl) rfl) ?_
          refine J_mono (w_aload_n C (jd jdt_Mo_deskTold 55 rfl) rfl) ?_
          refine J_mono (jg_Mo_287 C hy0 (jd jdt_Mo_deskTold 56 rfl)) ?_
          refine J_br (w_icmp_ge C (jd jdt_Mo_deskTold 57 rfl) rfl) (fun h13 => J_pos h13 ?_) (fun h13 => J_neg h13 ?_)
          · refine J_mono (w_aload_n C (jd jdt_Mo_deskTold 58 rfl) rfl) ?_
            refine J_mono (jg_Mo_88 C hy0 (jd jdt_Mo_deskTold 59 rfl)) ?_
            refine J_mono (w_bipush_61 C (jd jdt_Mo_deskTold 60 rfl)) ?_
            refine J_mono (w_iload_n C (jd jdt_Mo_deskTold 61 rfl) rfl) ?_
            refine J_mono (w_imul C (jd jdt_Mo_deskTold 62 rfl)) ?_
            refine J_mono (w_iconst_1 C (jd jdt_Mo_deskTold 63 rfl)) ?_
            refine J_mono (w_iadd C (jd jdt_Mo_deskTold 64 rfl)) ?_
            refine J_mono (w_iload C (jd jdt_Mo_deskTold 65 rfl) rfl) ?_
            refine J_mono (w_iadd C (jd jdt_Mo_deskTold 66 rfl)) ?_
            refine J_mono (w_aload_n C (jd jdt_Mo_deskTold 67 rfl) rfl) ?_
            refine J_mono (jg_Mo_106 C hy0 (jd jdt_Mo_deskTold 68 rfl)) ?_
            refine J_mono (w_iload C (jd jdt_Mo_deskTold 69 rfl) rfl) ?_
            refine J_bind (fun v14 hv14 => ?_)
            refine J_mono (w_iald C (jkf_12_43 hy0) hv14 (jd jdt_Mo_deskTold 70 rfl)) ?_
            refine J_bind (fun M15 hM15 => ?_)
            refine J_mono (w_iast C F (jkf_12_36 hy0) hM15 (jd jdt_Mo_deskTold 71 rfl)) ?_
            refine J_mono (w_iinc (v := x6 + 1) (ls' := [some (.ref y0), none, some (.int y2), none, none, none, some (.int (x6 + 1))]) C (jd jdt_Mo_deskTold 72 rfl) rfl rfl (by decide) rfl rfl) ?_
            refine J_mono (w_goto C (jd jdt_Mo_deskTold 73 rfl) rfl) ?_
            exact J_sub (ih (x6 + 1) M15) ⟨rfl, rfl, rfl, trivial⟩
          · exact J_some (fun hx => Wk_sb hx ⟨rfl, trivial⟩)
      refine J_seq (fun (q16 : SM) => Wk p l e R s m args below meth c G 7 Q 0 0 jN0 (jce G q16) 128 [some (.ref a0), none, none, none, none, none, none] []) (J_sub (L92 a0 v3 hp0 jfuel 0 M12) ⟨rfl, rfl, rfl, trivial⟩) (fun q16 hq16 => ?_)
      refine J_mono (w_aload_n C (jd jdt_Mo_deskTold 74 rfl) rfl) ?_
      refine J_mono (jg_Mo_69 C hp0 (jd jdt_Mo_deskTold 75 rfl)) ?_
      refine J_mono (w_iconst_0 C (jd jdt_Mo_deskTold 76 rfl)) ?_
      refine J_mono (w_dup2 C (jd jdt_Mo_deskTold 77 rfl)) ?_
      refine J_bind (fun v17 hv17 => ?_)
      refine J_mono (w_iald C (jkf_12_28 hp0) hv17 (jd jdt_Mo_deskTold 78 rfl)) ?_
      refine J_mono (w_iconst_1 C (jd jdt_Mo_deskTold 79 rfl)) ?_
      refine J_mono (w_iadd C (jd jdt_Mo_deskTold 80 rfl)) ?_
      refine J_bind (fun M18 hM18 => ?_)
      refine J_mono (w_iast C F (jkf_12_28 hp0) hM18 (jd jdt_Mo_deskTold 81 rfl)) ?_
      exact J_some (fun hx => hR M18 hx _ _ (jd jdt_Mo_deskTold 82 rfl))
    · exact J_some (fun hx => hR q8 hx _ _ (jd jdt_Mo_deskTold 33 rfl))
  · exact J_some (fun hx => hR q1.2 hx _ _ (jd jdt_Mo_deskTold 6 rfl))
end
theorem C_Mo_deskTold (l : Launch) (G : JG) (F : jF G = false) (a0 : Nat) (a1 : Int32) (hp0 : jkd a0 12) (M : SM) {q : SM} (hf : f_Mo_deskTold a0 a1 M = some q) : jMet l jy_Mo_deskTold jb_Mo_deskTold 7 none 8 0 0 G [.ref a0, .int a1] jN0 (jce G M) none jN0 (jce G q) :=
  j_met jo_Mo_deskTold (by decide) (Nat.le_of_ble_eq_true rfl) (fun p e s m args below meth c C hr hm => K_Mo_deskTold C F (Nat.le_refl _) a0 a1 hp0 M (fun t => t = q) (fun M' hX pc ls hd => by cases hX; exact w_vret C hr hd) _ hf rfl)
def f_Mo_sluiceTold (a0 : Nat) (M : SM) : Option SM := (f_Mo_cellTold a0 M).bind fun q1 => (if (q1.2.1 a0 5) = 0 then (if q1.1 = ((q1.2.1 a0 30) - 1) then ((f_Mo_fail a0 2 (q1.2.1 a0 9) q1.2).bind fun q5 => some q5) else ((aI q1.2 (jpf a0 34) q1.1).bind fun v6 => if v6 = 1 then ((f_Mo_fail a0 2 (q1.2.1 a0 9) q1.2).bind fun q8 => some q8) else (some q1.2))) else (some q1.2) : Option (SM)).bind fun q2 => if (q2.1 a0 5) = 0 then ((aS q2 (jpf a0 34) q1.1 1).bind fun M10 => some M10) else (some q2)
section
variable {p : Program} {l : Launch} {e : Env} {R : Room} {s : State} {m : MethodId} {args : Array Value} {below : List Frame} {meth : Method} {c : Code} {G : JG} {D : Nat} {Q : State → Prop}
set_option maxHeartbeats 4000000 in
set_option maxRecDepth 20000 in
theorem K_Mo_sluiceTold (C : jCx p R s m args meth c G jb_Mo_sluiceTold 2 D "SluicePitModel") (F : jF G = false) (hD : 4 ≤ D) (a0 : Nat) (hp0 : jkd a0 12) (M : SM) (X : SM → Prop) (hR : ∀ M', X M' → ∀ (pc : Nat) (ls : List (Option Value)), decode jb_Mo_sluiceTold pc = .ok (.return_, 1) → Wk p l e R s m args below meth c G 2 Q 0 0 jN0 (jce G M') pc ls []) : J X (f_Mo_sluiceTold a0 M) (Wk p l e R s m args below meth c G 2 Q 0 0 jN0 (jce G M) 0 [some (.ref a0), none] []) := by
  unfold f_Mo_sluiceTold
  refine J_mono (w_aload_n C (jd jdt_Mo_sluiceTold 0 rfl) rfl) ?_
  refine J_bind (fun q1 hq1 => ?_)
  refine J_mono (jc_Mo_330 C hp0 (C_Mo_cellTold l G F a0 hp0 M hq1) rfl (Nat.le_trans (Nat.le_of_ble_eq_true rfl : 3 + 1 ≤ 4) hD) (jd jdt_Mo_sluiceTold 1 rfl)) ?_
  refine J_mono (w_istore_n (ls' := [some (.ref a0), some (.int q1.1)]) C (jd jdt_Mo_sluiceTold 2 rfl) (by decide) rfl rfl) ?_
  refine J_mono (w_aload_n C (jd jdt_Mo_sluiceTold 3 rfl) rfl) ?_
  refine J_mono (jg_Mo_218 C hp0 (jd jdt_Mo_sluiceTold 4 rfl)) ?_
  refine J_seq (fun (q2 : SM) => Wk p l e R s m args below meth c G 2 Q 0 0 jN0 (jce G q2) 41 [some (.ref a0), some (.int q1.1)] []) ?_ (fun q2 hq2 => ?_)
  · refine J_br (w_if_ne (y := 0) C (jd jdt_Mo_sluiceTold 5 rfl) rfl) (fun h3 => J_pos h3 ?_) (fun h3 => J_neg h3 ?_)
    · refine J_mono (w_iload_n C (jd jdt_Mo_sluiceTold 6 rfl) rfl) ?_
      refine J_mono (w_aload_n C (jd jdt_Mo_sluiceTold 7 rfl) rfl) ?_
      refine J_mono (jg_Mo_280 C hp0 (jd jdt_Mo_sluiceTold 8 rfl)) ?_
      refine J_mono (w_iconst_1 C (jd jdt_Mo_sluiceTold 9 rfl)) ?_
      refine J_mono (w_isub C (jd jdt_Mo_sluiceTold 10 rfl)) ?_
      refine J_br (w_icmp_eq C (jd jdt_Mo_sluiceTold 11 rfl) rfl) (fun h4 => J_pos h4 ?_) (fun h4 => J_neg h4 ?_)
      · refine J_mono (w_aload_n C (jd jdt_Mo_sluiceTold 18 rfl) rfl) ?_
        refine J_mono (w_iconst_2 C (jd jdt_Mo_sluiceTold 19 rfl)) ?_
        refine J_mono (w_aload_n C (jd jdt_Mo_sluiceTold 20 rfl) rfl) ?_
        refine J_mono (jg_Mo_258 C hp0 (jd jdt_Mo_sluiceTold 21 rfl)) ?_
        refine J_bind (fun q5 hq5 => ?_)
        refine J_mono (jc_Mo_248 C hp0 (C_Mo_fail l G F a0 2 (q1.2.1 a0 9) hp0 q1.2 hq5) rfl (Nat.le_trans (Nat.le_of_ble_eq_true rfl : 1 + 1 ≤ 4) hD) (jd jdt_Mo_sluiceTold 22 rfl)) ?_
        exact J_some (fun hx => Wk_sb hx ⟨rfl, rfl, trivial⟩)
      · refine J_mono (w_aload_n C (jd jdt_Mo_sluiceTold 12 rfl) rfl) ?_
        refine J_mono (jg_Mo_82 C hp0 (jd jdt_Mo_sluiceTold 13 rfl)) ?_
        refine J_mono (w_iload_n C (jd jdt_Mo_sluiceTold 14 rfl) rfl) ?_
        refine J_bind (fun v6 hv6 => ?_)
        refine J_mono (w_iald C (jkf_12_34 hp0) hv6 (jd jdt_Mo_sluiceTold 15 rfl)) ?_
        refine J_mono (w_iconst_1 C (jd jdt_Mo_sluiceTold 16 rfl)) ?_
        refine J_br (w_icmp_ne C (jd jdt_Mo_sluiceTold 17 rfl) rfl) (fun h7 => J_pos h7 ?_) (fun h7 => J_neg h7 ?_)
        · refine J_mono (w_aload_n C (jd jdt_Mo_sluiceTold 18 rfl) rfl) ?_
          refine J_mono (w_iconst_2 C (jd jdt_Mo_sluiceTold 19 rfl)) ?_
          refine J_mono (w_aload_n C (jd jdt_Mo_sluiceTold 20 rfl) rfl) ?_
          refine J_mono (jg_Mo_258 C hp0 (jd jdt_Mo_sluiceTold 21 rfl)) ?_
          refine J_bind (fun q8 hq8 => ?_)
          refine J_mono (jc_Mo_248 C hp0 (C_Mo_fail l G F a0 2 (q1.2.1 a0 9) hp0 q1.2 hq8) rfl (Nat.le_trans (Nat.le_of_ble_eq_true rfl : 1 + 1 ≤ 4) hD) (jd jdt_Mo_sluiceTold 22 rfl)) ?_
          exact J_some (fun hx => Wk_sb hx ⟨rfl, rfl, trivial⟩)
        · exact J_some (fun hx => Wk_sb hx ⟨rfl, rfl, trivial⟩)
    · exact J_some (fun hx => Wk_sb hx ⟨rfl, rfl, trivial⟩)
  · refine J_mono (w_aload_n C (jd jdt_Mo_sluiceTold 23 rfl) rfl) ?_
    refine J_mono (jg_Mo_218 C hp0 (jd jdt_Mo_sluiceTold 24 rfl)) ?_
    refine J_br (w_if_ne (y := 0) C (jd jdt_Mo_sluiceTold 25 rfl) rfl) (fun h9 => J_pos h9 ?_) (fun h9 => J_neg h9 ?_)
    · refine J_mono (w_aload_n C (jd jdt_Mo_sluiceTold 26 rfl) rfl) ?_
      refine J_mono (jg_Mo_82 C hp0 (jd jdt_Mo_sluiceTold 27 rfl)) ?_
      refine J_mono (w_iload_n C (jd jdt_Mo_sluiceTold 28 rfl) rfl) ?_
      refine J_mono (w_iconst_1 C (jd jdt_Mo_sluiceTold 29 rfl)) ?_
      refine J_bind (fun M10 hM10 => ?_)
      refine J_mono (w_iast C F (jkf_12_34 hp0) hM10 (jd jdt_Mo_sluiceTold 30 rfl)) ?_
      exact J_some (fun hx => hR M10 hx _ _ (jd jdt_Mo_sluiceTold 31 rfl))
    · exact J_some (fun hx => hR q2 hx _ _ (jd jdt_Mo_sluiceTold 31 rfl))
end
theorem C_Mo_sluiceTold (l : Launch) (G : JG) (F : jF G = false) (a0 : Nat) (hp0 : jkd a0 12) (M : SM) {q : SM} (hf : f_Mo_sluiceTold a0 M = some q) : jMet l jy_Mo_sluiceTold jb_Mo_sluiceTold 2 none 4 0 0 G [.ref a0] jN0 (jce G M) none jN0 (jce G q) :=
  j_met jo_Mo_sluiceTold (by decide) (Nat.le_of_ble_eq_true rfl) (fun p e s m args below meth c C hr hm => K_Mo_sluiceTold C F (Nat.le_refl _) a0 hp0 M (fun t => t = q) (fun M' hX pc ls hd => by cases hX; exact w_vret C hr hd) _ hf rfl)
def f_Mo_millTold (a0 : Nat) (a1 : Int32) (M : SM) : Option SM := (f_Mo_isFull a0 1 4 a1 M).bind fun q1 => if q1.1 = 0 then ((aI q1.2 (jpf a0 28) 1).bind fun v3 => (f_Mo_newName a0 q1.2).bind fun q4 => (f_Mo_asks a0 (jpf a0 12) q4.2).bind fun q5 => (f_Mo_cellTold a0 q5).bind fun q6 => (f_Mo_asks a0 (jpf a0 20) q6.2).bind fun q7 => (f_Mo_number a0 1 99 q7).bind fun q8 => if (q8.2.1 a0 5) = 0 then ((aSL q8.2 (jpf a0 29) (8 + v3) q4.1).bind fun M10 => (aS M10 (jpf a0 37) (2 * v3) q6.1).bind fun M11 => (aS M11 (jpf a0 37) ((2 * v3) + 1) q8.1).bind fun M12 => (aI M12 (jpf a0 28) 1).bind fun v13 => (aS M12 (jpf a0 28) 1 (v13 + 1)).bind fun M14 => some M14) else (some q8.2)) else (some q1.2)
section
variable {p : Program} {l : Launch} {e : Env} {R : Room} {s : State} {m : MethodId} {args : Array Value} {below : List Frame} {meth : Method} {c : Code} {G : JG} {D : Nat} {Q : State → Prop}
set_option maxHeartbeats 4000000 in
set_option maxRecDepth 20000 in
theorem K_Mo_millTold (C : jCx p R s m args meth c G jb_Mo_millTold 7 D "SluicePitModel") (F : jF G = false) (hD : 6 ≤ D) (a0 : Nat) (a1 : Int32) (hp0 : jkd a0 12) (M : SM) (X : SM → Prop) (hR : ∀ M', X M' → ∀ (pc : Nat) (ls : List (Option Value)), decode jb_Mo_millTold pc = .ok (.return_, 1) → Wk p l e R s m args below meth c G 7 Q 0 0 jN0 (jce G M') pc ls []) : J X (f_Mo_millTold a0 a1 M) (Wk p l e R s m args below meth c G 7 Q 0 0 jN0 (jce G M) 0 [some (.ref a0), some (.int a1), none, none, none, none, none] []) := by
  unfold f_Mo_millTold
  refine J_mono (w_aload_n C (jd jdt_Mo_millTold 0 rfl) rfl) ?_
  refine J_mono (w_iconst_1 C (jd jdt_Mo_millTold 1 rfl)) ?_
  refine J_mono (w_iconst_4 C (jd jdt_Mo_millTold 2 rfl)) ?_
  refine J_mono (w_iload_n C (jd jdt_Mo_millTold 3 rfl) rfl) ?_
  refine J_bind (fun q1 hq1 => ?_)
  refine J_mono (jc_Mo_320 C hp0 (C_Mo_isFull l G F a0 1 4 a1 hp0 M hq1) rfl (Nat.le_trans (Nat.le_of_ble_eq_true rfl : 2 + 1 ≤ 6) hD) (jd jdt_Mo_millTold 4 rfl)) ?_
  refine J_br (w_if_eq (y := 0) C (jd jdt_Mo_millTold 5 rfl) rfl) (fun h2 => J_pos h2 ?_) (fun h2 => J_neg h2 ?_)
  · refine J_mono (w_aload_n C (jd jdt_Mo_millTold 7 rfl) rfl) ?_
    refine J_mono (jg_Mo_69 C hp0 (jd jdt_Mo_millTold 8 rfl)) ?_
    refine J_mono (w_iconst_1 C (jd jdt_Mo_millTold 9 rfl)) ?_
    refine J_bind (fun v3 hv3 => ?_)
    refine J_mono (w_iald C (jkf_12_28 hp0) hv3 (jd jdt_Mo_millTold 10 rfl)) ?_
    refine J_mono (w_istore_n (ls' := [some (.ref a0), some (.int a1), some (.int v3), none, none, none, none]) C (jd jdt_Mo_millTold 11 rfl) (by decide) rfl rfl) ?_
    refine J_mono (w_aload_n C (jd jdt_Mo_millTold 12 rfl) rfl) ?_
    refine J_bind (fun q4 hq4 => ?_)
    refine J_mono (jc_Mo_324 C hp0 (C_Mo_newName l G F a0 hp0 q1.2 hq4) rfl (Nat.le_trans (Nat.le_of_ble_eq_true rfl : 5 + 1 ≤ 6) hD) (jd jdt_Mo_millTold 13 rfl)) ?_
    refine J_mono (w_lstore_n (ls' := [some (.ref a0), some (.int a1), some (.int v3), some (.long q4.1), none, none, none]) C (jd jdt_Mo_millTold 14 rfl) (by decide) rfl rfl) ?_
    refine J_mono (w_aload_n C (jd jdt_Mo_millTold 15 rfl) rfl) ?_
    refine J_mono (w_aload_n C (jd jdt_Mo_millTold 16 rfl) rfl) ?_
    refine J_mono (jg_Mo_24 C hp0 (jd jdt_Mo_millTold 17 rfl)) ?_
    refine J_bind (fun q5 hq5 => ?_)
    refine J_mono (jc_Mo_304 C hp0 (C_Mo_asks l G F a0 (jpf a0 12) hp0 (jkf_12_12 hp0) q4.2 hq5) rfl (Nat.le_trans (Nat.le_of_ble_eq_true rfl : 4 + 1 ≤ 6) hD) (jd jdt_Mo_millTold 18 rfl)) ?_
    refine J_mono (w_aload_n C (jd jdt_Mo_millTold 19 rfl) rfl) ?_
    refine J_bind (fun q6 hq6 => ?_)
    refine J_mono (jc_Mo_330 C hp0 (C_Mo_cellTold l G F a0 hp0 q5 hq6) rfl (Nat.le_trans (Nat.le_of_ble_eq_true rfl : 3 + 1 ≤ 6) hD) (jd jdt_Mo_millTold 20 rfl)) ?_
    refine J_mono (w_istore (ls' := [some (.ref a0), some (.int a1), some (.int v3), some (.long q4.1), none, some (.int q6.1), none]) C (jd jdt_Mo_millTold 21 rfl) (by decide) rfl rfl) ?_
    refine J_mono (w_aload_n C (jd jdt_Mo_millTold 22 rfl) rfl) ?_
    refine J_mono (w_aload_n C (jd jdt_Mo_millTold 23 rfl) rfl) ?_
    refine J_mono (jg_Mo_48 C hp0 (jd jdt_Mo_millTold 24 rfl)) ?_
    refine J_bind (fun q7 hq7 => ?_)
    refine J_mono (jc_Mo_304 C hp0 (C_Mo_asks l G F a0 (jpf a0 20) hp0 (jkf_12_20 hp0) q6.2 hq7) rfl (Nat.le_trans (Nat.le_of_ble_eq_true rfl : 4 + 1 ≤ 6) hD) (jd jdt_Mo_millTold 25 rfl)) ?_
    refine J_mono (w_aload_n C (jd jdt_Mo_millTold 26 rfl) rfl) ?_
    refine J_mono (w_iconst_1 C (jd jdt_Mo_millTold 27 rfl)) ?_
    refine J_mono (w_bipush_99 C (jd jdt_Mo_millTold 28 rfl)) ?_
    refine J_bind (fun q8 hq8 => ?_)
    refine J_mono (jc_Mo_283 C hp0 (C_Mo_number l G F a0 1 99 hp0 q7 hq8) rfl (Nat.le_trans (Nat.le_of_ble_eq_true rfl : 2 + 1 ≤ 6) hD) (jd jdt_Mo_millTold 29 rfl)) ?_
    refine J_mono (w_istore (ls' := [some (.ref a0), some (.int a1), some (.int v3), some (.long q4.1), none, some (.int q6.1), some (.int q8.1)]) C (jd jdt_Mo_millTold 30 rfl) (by decide) rfl rfl) ?_
    refine J_mono (w_aload_n C (jd jdt_Mo_millTold 31 rfl) rfl) ?_
    refine J_mono (jg_Mo_218 C hp0 (jd jdt_Mo_millTold 32 rfl)) ?_
    refine J_br (w_if_eq (y := 0) C (jd jdt_Mo_millTold 33 rfl) rfl) (fun h9 => J_pos h9 ?_) (fun h9 => J_neg h9 ?_)
    · refine J_mono (w_aload_n C (jd jdt_Mo_millTold 35 rfl) rfl) ?_
      refine J_mono (jg_Mo_72 C hp0 (jd jdt_Mo_millTold 36 rfl)) ?_
      refine J_mono (w_bipush_8 C (jd jdt_Mo_millTold 37 rfl)) ?_
      refine J_mono (w_iload_n C (jd jdt_Mo_millTold 38 rfl) rfl) ?_
      refine J_mono (w_iadd C (jd jdt_Mo_millTold 39 rfl)) ?_
      refine J_mono (w_lload_n C (jd jdt_Mo_millTold 40 rfl) rfl) ?_
      refine J_bind (fun M10 hM10 => ?_)
      refine J_mono (w_last C F (jkf_12_29 hp0) hM10 (jd jdt_Mo_millTold 41 rfl)) ?_
      refine J_mono (w_aload_n C (jd jdt_Mo_millTold 42 rfl) rfl) ?_
      refine J_mono (jg_Mo_91 C hp0 (jd jdt_Mo_millTold 43 rfl)) ?_
      refine J_mono (w_iconst_2 C (jd jdt_Mo_millTold 44 rfl)) ?_
      refine J_mono (w_iload_n C (jd jdt_Mo_millTold 45 rfl) rfl) ?_
      refine J_mono (w_imul C (jd jdt_Mo_millTold 46 rfl)) ?_
      refine J_mono (w_iload C (jd jdt_Mo_millTold 47 rfl) rfl) ?_
      refine J_bind (fun M11 hM11 => ?_)
      refine J_mono (w_iast C F (jkf_12_37 hp0) hM11 (jd jdt_Mo_millTold 48 rfl)) ?_
      refine J_mono (w_aload_n C (jd jdt_Mo_millTold 49 rfl) rfl) ?_
      refine J_mono (jg_Mo_91 C hp0 (jd jdt_Mo_millTold 50 rfl)) ?_
      refine J_mono (w_iconst_2 C (jd jdt_Mo_millTold 51 rfl)) ?_
      refine J_mono (w_iload_n C (jd jdt_Mo_millTold 52 rfl) rfl) ?_
      refine J_mono (w_imul C (jd jdt_Mo_millTold 53 rfl)) ?_
      refine J_mono (w_iconst_1 C (jd jdt_Mo_millTold 54 rfl)) ?_
      refine J_mono (w_iadd C (jd jdt_Mo_millTold 55 rfl)) ?_
      refine J_mono (w_iload C (jd jdt_Mo_millTold 56 rfl) rfl) ?_
      refine J_bind (fun M12 hM12 => ?_)
      refine J_mono (w_iast C F (jkf_12_37 hp0) hM12 (jd jdt_Mo_millTold 57 rfl)) ?_
      refine J_mono (w_aload_n C (jd jdt_Mo_millTold 58 rfl) rfl) ?_
      refine J_mono (jg_Mo_69 C hp0 (jd jdt_Mo_millTold 59 rfl)) ?_
      refine J_mono (w_iconst_1 C (jd jdt_Mo_millTold 60 rfl)) ?_
      refine J_mono (w_dup2 C (jd jdt_Mo_millTold 61 rfl)) ?_
      refine J_bind (fun v13 hv13 => ?_)
      refine J_mono (w_iald C (jkf_12_28 hp0) hv13 (jd jdt_Mo_millTold 62 rfl)) ?_
      refine J_mono (w_iconst_1 C (jd jdt_Mo_millTold 63 rfl)) ?_
      refine J_mono (w_iadd C (jd jdt_Mo_millTold 64 rfl)) ?_
      refine J_bind (fun M14 hM14 => ?_)
      refine J_mono (w_iast C F (jkf_12_28 hp0) hM14 (jd jdt_Mo_millTold 65 rfl)) ?_
      exact J_some (fun hx => hR M14 hx _ _ (jd jdt_Mo_millTold 66 rfl))
    · exact J_some (fun hx => hR q8.2 hx _ _ (jd jdt_Mo_millTold 34 rfl))
  · exact J_some (fun hx => hR q1.2 hx _ _ (jd jdt_Mo_millTold 6 rfl))
end
theorem C_Mo_millTold (l : Launch) (G : JG) (F : jF G = false) (a0 : Nat) (a1 : Int32) (hp0 : jkd a0 12) (M : SM) {q : SM} (hf : f_Mo_millTold a0 a1 M = some q) : jMet l jy_Mo_millTold jb_Mo_millTold 7 none 6 0 0 G [.ref a0, .int a1] jN0 (jce G M) none jN0 (jce G q) :=
  j_met jo_Mo_millTold (by decide) (Nat.le_of_ble_eq_true rfl) (fun p e s m args below meth c C hr hm => K_Mo_millTold C F (Nat.le_refl _) a0 a1 hp0 M (fun t => t = q) (fun M' hX pc ls hd => by cases hX; exact w_vret C hr hd) _ hf rfl)
def f_Mo_boatTold (a0 : Nat) (a1 : Int32) (M : SM) : Option SM := (f_Mo_isFull a0 2 4 a1 M).bind fun q1 => if q1.1 = 0 then ((aI q1.2 (jpf a0 28) 2).bind fun v3 => (f_Mo_newName a0 q1.2).bind fun q4 => (f_Mo_asks a0 (jpf a0 12) q4.2).bind fun q5 => (f_Mo_cellTold a0 q5).bind fun q6 => (f_Mo_asks a0 (jpf a0 22) q6.2).bind fun q7 => (f_Mo_number a0 1 99 q7).bind fun q8 => if (q8.2.1 a0 5) = 0 then ((aSL q8.2 (jpf a0 29) (16 + v3) q4.1).bind fun M10 => (aS M10 (jpf a0 38) (2 * v3) q6.1).bind fun M11 => (aS M11 (jpf a0 38) ((2 * v3) + 1) q8.1).bind fun M12 => (aI M12 (jpf a0 28) 2).bind fun v13 => (aS M12 (jpf a0 28) 2 (v13 + 1)).bind fun M14 => some M14) else (some q8.2)) else (some q1.2)
section
variable {p : Program} {l : Launch} {e : Env} {R : Room} {s : State} {m : MethodId} {args : Array Value} {below : List Frame} {meth : Method} {c : Code} {G : JG} {D : Nat} {Q : State → Prop}
set_option maxHeartbeats 4000000 in
set_option maxRecDepth 20000 in
theorem K_Mo_boatTold (C : jCx p R s m args meth c G jb_Mo_boatTold 7 D "SluicePitModel") (F : jF G = false) (hD : 6 ≤ D) (a0 : Nat) (a1 : Int32) (hp0 : jkd a0 12) (M : SM) (X : SM → Prop) (hR : ∀ M', X M' → ∀ (pc : Nat) (ls : List (Option Value)), decode jb_Mo_boatTold pc = .ok (.return_, 1) → Wk p l e R s m args below meth c G 7 Q 0 0 jN0 (jce G M') pc ls []) : J X (f_Mo_boatTold a0 a1 M) (Wk p l e R s m args below meth c G 7 Q 0 0 jN0 (jce G M) 0 [some (.ref a0), some (.int a1), none, none, none, none, none] []) := by
  unfold f_Mo_boatTold
  refine J_mono (w_aload_n C (jd jdt_Mo_boatTold 0 rfl) rfl) ?_
  refine J_mono (w_iconst_2 C (jd jdt_Mo_boatTold 1 rfl)) ?_
  refine J_mono (w_iconst_4 C (jd jdt_Mo_boatTold 2 rfl)) ?_
  refine J_mono (w_iload_n C (jd jdt_Mo_boatTold 3 rfl) rfl) ?_
  refine J_bind (fun q1 hq1 => ?_)
  refine J_mono (jc_Mo_320 C hp0 (C_Mo_isFull l G F a0 2 4 a1 hp0 M hq1) rfl (Nat.le_trans (Nat.le_of_ble_eq_true rfl : 2 + 1 ≤ 6) hD) (jd jdt_Mo_boatTold 4 rfl)) ?_
  refine J_br (w_if_eq (y := 0) C (jd jdt_Mo_boatTold 5 rfl) rfl) (fun h2 => J_pos h2 ?_) (fun h2 => J_neg h2 ?_)
  · refine J_mono (w_aload_n C (jd jdt_Mo_boatTold 7 rfl) rfl) ?_
    refine J_mono (jg_Mo_69 C hp0 (jd jdt_Mo_boatTold 8 rfl)) ?_
    refine J_mono (w_iconst_2 C (jd jdt_Mo_boatTold 9 rfl)) ?_
    refine J_bind (fun v3 hv3 => ?_)
    refine J_mono (w_iald C (jkf_12_28 hp0) hv3 (jd jdt_Mo_boatTold 10 rfl)) ?_
    refine J_mono (w_istore_n (ls' := [some (.ref a0), some (.int a1), some (.int v3), none, none, none, none]) C (jd jdt_Mo_boatTold 11 rfl) (by decide) rfl rfl) ?_
    refine J_mono (w_aload_n C (jd jdt_Mo_boatTold 12 rfl) rfl) ?_
    refine J_bind (fun q4 hq4 => ?_)
    refine J_mono (jc_Mo_324 C hp0 (C_Mo_newName l G F a0 hp0 q1.2 hq4) rfl (Nat.le_trans (Nat.le_of_ble_eq_true rfl : 5 + 1 ≤ 6) hD) (jd jdt_Mo_boatTold 13 rfl)) ?_
    refine J_mono (w_lstore_n (ls' := [some (.ref a0), some (.int a1), some (.int v3), some (.long q4.1), none, none, none]) C (jd jdt_Mo_boatTold 14 rfl) (by decide) rfl rfl) ?_
    refine J_mono (w_aload_n C (jd jdt_Mo_boatTold 15 rfl) rfl) ?_
    refine J_mono (w_aload_n C (jd jdt_Mo_boatTold 16 rfl) rfl) ?_
    refine J_mono (jg_Mo_24 C hp0 (jd jdt_Mo_boatTold 17 rfl)) ?_
    refine J_bind (fun q5 hq5 => ?_)
    refine J_mono (jc_Mo_304 C hp0 (C_Mo_asks l G F a0 (jpf a0 12) hp0 (jkf_12_12 hp0) q4.2 hq5) rfl (Nat.le_trans (Nat.le_of_ble_eq_true rfl : 4 + 1 ≤ 6) hD) (jd jdt_Mo_boatTold 18 rfl)) ?_
    refine J_mono (w_aload_n C (jd jdt_Mo_boatTold 19 rfl) rfl) ?_
    refine J_bind (fun q6 hq6 => ?_)
    refine J_mono (jc_Mo_330 C hp0 (C_Mo_cellTold l G F a0 hp0 q5 hq6) rfl (Nat.le_trans (Nat.le_of_ble_eq_true rfl : 3 + 1 ≤ 6) hD) (jd jdt_Mo_boatTold 20 rfl)) ?_
    refine J_mono (w_istore (ls' := [some (.ref a0), some (.int a1), some (.int v3), some (.long q4.1), none, some (.int q6.1), none]) C (jd jdt_Mo_boatTold 21 rfl) (by decide) rfl rfl) ?_
    refine J_mono (w_aload_n C (jd jdt_Mo_boatTold 22 rfl) rfl) ?_
    refine J_mono (w_aload_n C (jd jdt_Mo_boatTold 23 rfl) rfl) ?_
    refine J_mono (jg_Mo_54 C hp0 (jd jdt_Mo_boatTold 24 rfl)) ?_
    refine J_bind (fun q7 hq7 => ?_)
    refine J_mono (jc_Mo_304 C hp0 (C_Mo_asks l G F a0 (jpf a0 22) hp0 (jkf_12_22 hp0) q6.2 hq7) rfl (Nat.le_trans (Nat.le_of_ble_eq_true rfl : 4 + 1 ≤ 6) hD) (jd jdt_Mo_boatTold 25 rfl)) ?_
    refine J_mono (w_aload_n C (jd jdt_Mo_boatTold 26 rfl) rfl) ?_
    refine J_mono (w_iconst_1 C (jd jdt_Mo_boatTold 27 rfl)) ?_
    refine J_mono (w_bipush_99 C (jd jdt_Mo_boatTold 28 rfl)) ?_
    refine J_bind (fun q8 hq8 => ?_)
    refine J_mono (jc_Mo_283 C hp0 (C_Mo_number l G F a0 1 99 hp0 q7 hq8) rfl (Nat.le_trans (Nat.le_of_ble_eq_true rfl : 2 + 1 ≤ 6) hD) (jd jdt_Mo_boatTold 29 rfl)) ?_
    refine J_mono (w_istore (ls' := [some (.ref a0), some (.int a1), some (.int v3), some (.long q4.1), none, some (.int q6.1), some (.int q8.1)]) C (jd jdt_Mo_boatTold 30 rfl) (by decide) rfl rfl) ?_
    refine J_mono (w_aload_n C (jd jdt_Mo_boatTold 31 rfl) rfl) ?_
    refine J_mono (jg_Mo_218 C hp0 (jd jdt_Mo_boatTold 32 rfl)) ?_
    refine J_br (w_if_eq (y := 0) C (jd jdt_Mo_boatTold 33 rfl) rfl) (fun h9 => J_pos h9 ?_) (fun h9 => J_neg h9 ?_)
    · refine J_mono (w_aload_n C (jd jdt_Mo_boatTold 35 rfl) rfl) ?_
      refine J_mono (jg_Mo_72 C hp0 (jd jdt_Mo_boatTold 36 rfl)) ?_
      refine J_mono (w_bipush_16 C (jd jdt_Mo_boatTold 37 rfl)) ?_
      refine J_mono (w_iload_n C (jd jdt_Mo_boatTold 38 rfl) rfl) ?_
      refine J_mono (w_iadd C (jd jdt_Mo_boatTold 39 rfl)) ?_
      refine J_mono (w_lload_n C (jd jdt_Mo_boatTold 40 rfl) rfl) ?_
      refine J_bind (fun M10 hM10 => ?_)
      refine J_mono (w_last C F (jkf_12_29 hp0) hM10 (jd jdt_Mo_boatTold 41 rfl)) ?_
      refine J_mono (w_aload_n C (jd jdt_Mo_boatTold 42 rfl) rfl) ?_
      refine J_mono (jg_Mo_94 C hp0 (jd jdt_Mo_boatTold 43 rfl)) ?_
      refine J_mono (w_iconst_2 C (jd jdt_Mo_boatTold 44 rfl)) ?_
      refine J_mono (w_iload_n C (jd jdt_Mo_boatTold 45 rfl) rfl) ?_
      refine J_mono (w_imul C (jd jdt_Mo_boatTold 46 rfl)) ?_
      refine J_mono (w_iload C (jd jdt_Mo_boatTold 47 rfl) rfl) ?_
      refine J_bind (fun M11 hM11 => ?_)
      refine J_mono (w_iast C F (jkf_12_38 hp0) hM11 (jd jdt_Mo_boatTold 48 rfl)) ?_
      refine J_mono (w_aload_n C (jd jdt_Mo_boatTold 49 rfl) rfl) ?_
      refine J_mono (jg_Mo_94 C hp0 (jd jdt_Mo_boatTold 50 rfl)) ?_
      refine J_mono (w_iconst_2 C (jd jdt_Mo_boatTold 51 rfl)) ?_
      refine J_mono (w_iload_n C (jd jdt_Mo_boatTold 52 rfl) rfl) ?_
      refine J_mono (w_imul C (jd jdt_Mo_boatTold 53 rfl)) ?_
      refine J_mono (w_iconst_1 C (jd jdt_Mo_boatTold 54 rfl)) ?_
      refine J_mono (w_iadd C (jd jdt_Mo_boatTold 55 rfl)) ?_
      refine J_mono (w_iload C (jd jdt_Mo_boatTold 56 rfl) rfl) ?_
      refine J_bind (fun M12 hM12 => ?_)
      refine J_mono (w_iast C F (jkf_12_38 hp0) hM12 (jd jdt_Mo_boatTold 57 rfl)) ?_
      refine J_mono (w_aload_n C (jd jdt_Mo_boatTold 58 rfl) rfl) ?_
      refine J_mono (jg_Mo_69 C hp0 (jd jdt_Mo_boatTold 59 rfl)) ?_
      refine J_mono (w_iconst_2 C (jd jdt_Mo_boatTold 60 rfl)) ?_
      refine J_mono (w_dup2 C (jd jdt_Mo_boatTold 61 rfl)) ?_
      refine J_bind (fun v13 hv13 => ?_)
      refine J_mono (w_iald C (jkf_12_28 hp0) hv13 (jd jdt_Mo_boatTold 62 rfl)) ?_
      refine J_mono (w_iconst_1 C (jd jdt_Mo_boatTold 63 rfl)) ?_
      refine J_mono (w_iadd C (jd jdt_Mo_boatTold 64 rfl)) ?_
      refine J_bind (fun M14 hM14 => ?_)
      refine J_mono (w_iast C F (jkf_12_28 hp0) hM14 (jd jdt_Mo_boatTold 65 rfl)) ?_
      exact J_some (fun hx => hR M14 hx _ _ (jd jdt_Mo_boatTold 66 rfl))
    · exact J_some (fun hx => hR q8.2 hx _ _ (jd jdt_Mo_boatTold 34 rfl))
  · exact J_some (fun hx => hR q1.2 hx _ _ (jd jdt_Mo_boatTold 6 rfl))
end
theorem C_Mo_boatTold (l : Launch) (G : JG) (F : jF G = false) (a0 : Nat) (a1 : Int32) (hp0 : jkd a0 12) (M : SM) {q : SM} (hf : f_Mo_boatTold a0 a1 M = some q) : jMet l jy_Mo_boatTold jb_Mo_boatTold 7 none 6 0 0 G [.ref a0, .int a1] jN0 (jce G M) none jN0 (jce G q) :=
  j_met jo_Mo_boatTold (by decide) (Nat.le_of_ble_eq_true rfl) (fun p e s m args below meth c C hr hm => K_Mo_boatTold C F (Nat.le_refl _) a0 a1 hp0 M (fun t => t = q) (fun M' hX pc ls hd => by cases hX; exact w_vret C hr hd) _ hf rfl)
def f_Mo_claqueTold (a0 : Nat) (a1 : Int32) (M : SM) : Option SM := (f_Mo_isFull a0 3 4 a1 M).bind fun q1 => if q1.1 = 0 then ((aI q1.2 (jpf a0 28) 3).bind fun v3 => (f_Mo_asks a0 (jpf a0 12) q1.2).bind fun q4 => (f_Mo_cellTold a0 q4).bind fun q5 => (f_Mo_asks a0 (jpf a0 24) q5.2).bind fun q6 => (f_Mo_number a0 1 9 q6).bind fun q7 => if (q7.2.1 a0 5) = 0 then ((aS q7.2 (jpf a0 39) (2 * v3) q5.1).bind fun M9 => (aS M9 (jpf a0 39) ((2 * v3) + 1) q7.1).bind fun M10 => (aI M10 (jpf a0 28) 3).bind fun v11 => (aS M10 (jpf a0 28) 3 (v11 + 1)).bind fun M12 => some M12) else (some q7.2)) else (some q1.2)
section
variable {p : Program} {l : Launch} {e : Env} {R : Room} {s : State} {m : MethodId} {args : Array Value} {below : List Frame} {meth : Method} {c : Code} {G : JG} {D : Nat} {Q : State → Prop}
set_option maxHeartbeats 4000000 in
set_option maxRecDepth 20000 in
theorem K_Mo_claqueTold (C : jCx p R s m args meth c G jb_Mo_claqueTold 5 D "SluicePitModel") (F : jF G = false) (hD : 5 ≤ D) (a0 : Nat) (a1 : Int32) (hp0 : jkd a0 12) (M : SM) (X : SM → Prop) (hR : ∀ M', X M' → ∀ (pc : Nat) (ls : List (Option Value)), decode jb_Mo_claqueTold pc = .ok (.return_, 1) → Wk p l e R s m args below meth c G 5 Q 0 0 jN0 (jce G M') pc ls []) : J X (f_Mo_claqueTold a0 a1 M) (Wk p l e R s m args below meth c G 5 Q 0 0 jN0 (jce G M) 0 [some (.ref a0), some (.int a1), none, none, none] []) := by
  unfold f_Mo_claqueTold
  refine J_mono (w_aload_n C (jd jdt_Mo_claqueTold 0 rfl) rfl) ?_
  refine J_mono (w_iconst_3 C (jd jdt_Mo_claqueTold 1 rfl)) ?_
  refine J_mono (w_iconst_4 C (jd jdt_Mo_claqueTold 2 rfl)) ?_
  refine J_mono (w_iload_n C (jd jdt_Mo_claqueTold 3 rfl) rfl) ?_
  refine J_bind (fun q1 hq1 => ?_)
  refine J_mono (jc_Mo_320 C hp0 (C_Mo_isFull l G F a0 3 4 a1 hp0 M hq1) rfl (Nat.le_trans (Nat.le_of_ble_eq_true rfl : 2 + 1 ≤ 5) hD) (jd jdt_Mo_claqueTold 4 rfl)) ?_
  refine J_br (w_if_eq (y := 0) C (jd jdt_Mo_claqueTold 5 rfl) rfl) (fun h2 => J_pos h2 ?_) (fun h2 => J_neg h2 ?_)
  · refine J_mono (w_aload_n C (jd jdt_Mo_claqueTold 7 rfl) rfl) ?_
    refine J_mono (jg_Mo_69 C hp0 (jd jdt_Mo_claqueTold 8 rfl)) ?_
    refine J_mono (w_iconst_3 C (jd jdt_Mo_claqueTold 9 rfl)) ?_
    refine J_bind (fun v3 hv3 => ?_)
    refine J_mono (w_iald C (jkf_12_28 hp0) hv3 (jd jdt_Mo_claqueTold 10 rfl)) ?_
    refine J_mono (w_istore_n (ls' := [some (.ref a0), some (.int a1), some (.int v3), none, none]) C (jd jdt_Mo_claqueTold 11 rfl) (by decide) rfl rfl) ?_
    refine J_mono (w_aload_n C (jd jdt_Mo_claqueTold 12 rfl) rfl) ?_
    refine J_mono (w_aload_n C (jd jdt_Mo_claqueTold 13 rfl) rfl) ?_
    refine J_mono (jg_Mo_24 C hp0 (jd jdt_Mo_claqueTold 14 rfl)) ?_
    refine J_bind (fun q4 hq4 => ?_)
    refine J_mono (jc_Mo_304 C hp0 (C_Mo_asks l G F a0 (jpf a0 12) hp0 (jkf_12_12 hp0) q1.2 hq4) rfl (Nat.le_trans (Nat.le_of_ble_eq_true rfl : 4 + 1 ≤ 5) hD) (jd jdt_Mo_claqueTold 15 rfl)) ?_
    refine J_mono (w_aload_n C (jd jdt_Mo_claqueTold 16 rfl) rfl) ?_
    refine J_bind (fun q5 hq5 => ?_)
    refine J_mono (jc_Mo_330 C hp0 (C_Mo_cellTold l G F a0 hp0 q4 hq5) rfl (Nat.le_trans (Nat.le_of_ble_eq_true rfl : 3 + 1 ≤ 5) hD) (jd jdt_Mo_claqueTold 17 rfl)) ?_
    refine J_mono (w_istore_n (ls' := [some (.ref a0), some (.int a1), some (.int v3), some (.int q5.1), none]) C (jd jdt_Mo_claqueTold 18 rfl) (by decide) rfl rfl) ?_
    refine J_mono (w_aload_n C (jd jdt_Mo_claqueTold 19 rfl) rfl) ?_
    refine J_mono (w_aload_n C (jd jdt_Mo_claqueTold 20 rfl) rfl) ?_
    refine J_mono (jg_Mo_60 C hp0 (jd jdt_Mo_claqueTold 21 rfl)) ?_
    refine J_bind (fun q6 hq6 => ?_)
    refine J_mono (jc_Mo_304 C hp0 (C_Mo_asks l G F a0 (jpf a0 24) hp0 (jkf_12_24 hp0) q5.2 hq6) rfl (Nat.le_trans (Nat.le_of_ble_eq_true rfl : 4 + 1 ≤ 5) hD) (jd jdt_Mo_claqueTold 22 rfl)) ?_
    refine J_mono (w_aload_n C (jd jdt_Mo_claqueTold 23 rfl) rfl) ?_
    refine J_mono (w_iconst_1 C (jd jdt_Mo_claqueTold 24 rfl)) ?_
    refine J_mono (w_bipush_9 C (jd jdt_Mo_claqueTold 25 rfl)) ?_
    refine J_bind (fun q7 hq7 => ?_)
    refine J_mono (jc_Mo_283 C hp0 (C_Mo_number l G F a0 1 9 hp0 q6 hq7) rfl (Nat.le_trans (Nat.le_of_ble_eq_true rfl : 2 + 1 ≤ 5) hD) (jd jdt_Mo_claqueTold 26 rfl)) ?_
    refine J_mono (w_istore (ls' := [some (.ref a0), some (.int a1), some (.int v3), some (.int q5.1), some (.int q7.1)]) C (jd jdt_Mo_claqueTold 27 rfl) (by decide) rfl rfl) ?_
    refine J_mono (w_aload_n C (jd jdt_Mo_claqueTold 28 rfl) rfl) ?_
    refine J_mono (jg_Mo_218 C hp0 (jd jdt_Mo_claqueTold 29 rfl)) ?_
    refine J_br (w_if_eq (y := 0) C (jd jdt_Mo_claqueTold 30 rfl) rfl) (fun h8 => J_pos h8 ?_) (fun h8 => J_neg h8 ?_)
    · refine J_mono (w_aload_n C (jd jdt_Mo_claqueTold 32 rfl) rfl) ?_
      refine J_mono (jg_Mo_97 C hp0 (jd jdt_Mo_claqueTold 33 rfl)) ?_
      refine J_mono (w_iconst_2 C (jd jdt_Mo_claqueTold 34 rfl)) ?_
      refine J_mono (w_iload_n C (jd jdt_Mo_claqueTold 35 rfl) rfl) ?_
      refine J_mono (w_imul C (jd jdt_Mo_claqueTold 36 rfl)) ?_
      refine J_mono (w_iload_n C (jd jdt_Mo_claqueTold 37 rfl) rfl) ?_
      refine J_bind (fun M9 hM9 => ?_)
      refine J_mono (w_iast C F (jkf_12_39 hp0) hM9 (jd jdt_Mo_claqueTold 38 rfl)) ?_
      refine J_mono (w_aload_n C (jd jdt_Mo_claqueTold 39 rfl) rfl) ?_
      refine J_mono (jg_Mo_97 C hp0 (jd jdt_Mo_claqueTold 40 rfl)) ?_
      refine J_mono (w_iconst_2 C (jd jdt_Mo_claqueTold 41 rfl)) ?_
      refine J_mono (w_iload_n C (jd jdt_Mo_claqueTold 42 rfl) rfl) ?_
      refine J_mono (w_imul C (jd jdt_Mo_claqueTold 43 rfl)) ?_
      refine J_mono (w_iconst_1 C (jd jdt_Mo_claqueTold 44 rfl)) ?_
      refine J_mono (w_iadd C (jd jdt_Mo_claqueTold 45 rfl)) ?_
      refine J_mono (w_iload C (jd jdt_Mo_claqueTold 46 rfl) rfl) ?_
      refine J_bind (fun M10 hM10 => ?_)
      refine J_mono (w_iast C F (jkf_12_39 hp0) hM10 (jd jdt_Mo_claqueTold 47 rfl)) ?_
      refine J_mono (w_aload_n C (jd jdt_Mo_claqueTold 48 rfl) rfl) ?_
      refine J_mono (jg_Mo_69 C hp0 (jd jdt_Mo_claqueTold 49 rfl)) ?_
      refine J_mono (w_iconst_3 C (jd jdt_Mo_claqueTold 50 rfl)) ?_
      refine J_mono (w_dup2 C (jd jdt_Mo_claqueTold 51 rfl)) ?_
      refine J_bind (fun v11 hv11 => ?_)
      refine J_mono (w_iald C (jkf_12_28 hp0) hv11 (jd jdt_Mo_claqueTold 52 rfl)) ?_
      refine J_mono (w_iconst_1 C (jd jdt_Mo_claqueTold 53 rfl)) ?_
      refine J_mono (w_iadd C (jd jdt_Mo_claqueTold 54 rfl)) ?_
      refine J_bind (fun M12 hM12 => ?_)
      refine J_mono (w_iast C F (jkf_12_28 hp0) hM12 (jd jdt_Mo_claqueTold 55 rfl)) ?_
      exact J_some (fun hx => hR M12 hx _ _ (jd jdt_Mo_claqueTold 56 rfl))
    · exact J_some (fun hx => hR q7.2 hx _ _ (jd jdt_Mo_claqueTold 31 rfl))
  · exact J_some (fun hx => hR q1.2 hx _ _ (jd jdt_Mo_claqueTold 6 rfl))
end
theorem C_Mo_claqueTold (l : Launch) (G : JG) (F : jF G = false) (a0 : Nat) (a1 : Int32) (hp0 : jkd a0 12) (M : SM) {q : SM} (hf : f_Mo_claqueTold a0 a1 M = some q) : jMet l jy_Mo_claqueTold jb_Mo_claqueTold 5 none 5 0 0 G [.ref a0, .int a1] jN0 (jce G M) none jN0 (jce G q) :=
  j_met jo_Mo_claqueTold (by decide) (Nat.le_of_ble_eq_true rfl) (fun p e s m args below meth c C hr hm => K_Mo_claqueTold C F (Nat.le_refl _) a0 a1 hp0 M (fun t => t = q) (fun M' hX pc ls hd => by cases hX; exact w_vret C hr hd) _ hf rfl)
def f_Mo_statementTold (a0 : Nat) (M : SM) : Option SM := if (M.1 a0 42) = 70 then ((f_Mo_fail a0 5 (M.1 a0 2) M).bind fun q2 => some q2) else ((f_Mo_takes a0 (jpf a0 11) M).bind fun q3 => (if q3.1 = 0 then ((f_Mo_takes a0 (jpf a0 13) q3.2).bind fun q6 => if q6.1 = 0 then ((f_Mo_takes a0 (jpf a0 14) q6.2).bind fun q8 => if q8.1 = 0 then ((f_Mo_takes a0 (jpf a0 17) q8.2).bind fun q10 => if q10.1 = 0 then ((f_Mo_takes a0 (jpf a0 18) q10.2).bind fun q12 => if q12.1 = 0 then ((f_Mo_takes a0 (jpf a0 19) q12.2).bind fun q14 => if q14.1 = 0 then ((f_Mo_takes a0 (jpf a0 21) q14.2).bind fun q16 => if q16.1 = 0 then ((f_Mo_takes a0 (jpf a0 23) q16.2).bind fun q18 => if q18.1 = 0 then ((f_Mo_asks a0 (jpf a0 25) q18.2).bind fun q20 => (f_Mo_number a0 1 99 q20).bind fun q21 => (aS q21.2 (jpf a0 41) 0 q21.1).bind fun M22 => some M22) else ((f_Mo_claqueTold a0 (M.1 a0 2) q18.2).bind fun q23 => some q23)) else ((f_Mo_boatTold a0 (M.1 a0 2) q16.2).bind fun q24 => some q24)) else ((f_Mo_millTold a0 (M.1 a0 2) q14.2).bind fun q25 => some q25)) else ((f_Mo_sluiceTold a0 q12.2).bind fun q26 => some q26)) else ((f_Mo_cellTold a0 q10.2).bind fun q27 => (aS q27.2 (jpf a0 40) 0 q27.1).bind fun M28 => some M28)) else ((f_Mo_deskTold a0 (M.1 a0 2) q8.2).bind fun q29 => some q29)) else ((f_Mo_cellIsTold a0 0 q6.2).bind fun q30 => some q30)) else ((f_Mo_cellIsTold a0 1 q3.2).bind fun q31 => some q31) : Option (SM)).bind fun q4 => (f_Mo_asksSign a0 59 q4).bind fun q32 => some (sI q32 a0 42 ((q32.1 a0 42) + 1)))
section
variable {p : Program} {l : Launch} {e : Env} {R : Room} {s : State} {m : MethodId} {args : Array Value} {below : List Frame} {meth : Method} {c : Code} {G : JG} {D : Nat} {Q : State → Prop}
set_option maxHeartbeats 4000000 in
set_option maxRecDepth 20000 in
theorem K_Mo_statementTold (C : jCx p R s m args meth c G jb_Mo_statementTold 2 D "SluicePitModel") (F : jF G = false) (hD : 9 ≤ D) (a0 : Nat) (hp0 : jkd a0 12) (M : SM) (X : SM → Prop) (hR : ∀ M', X M' → ∀ (pc : Nat) (ls : List (Option Value)), decode jb_Mo_statementTold pc = .ok (.return_, 1) → Wk p l e R s m args below meth c G 2 Q 0 0 jN0 (jce G M') pc ls []) : J X (f_Mo_statementTold a0 M) (Wk p l e R s m args below meth c G 2 Q 0 0 jN0 (jce G M) 0 [some (.ref a0), none] []) := by
  unfold f_Mo_statementTold
  refine J_mono (w_aload_n C (jd jdt_Mo_statementTold 0 rfl) rfl) ?_
  refine J_mono (jg_Mo_224 C hp0 (jd jdt_Mo_statementTold 1 rfl)) ?_
  refine J_mono (w_istore_n (ls' := [some (.ref a0), some (.int (M.1 a0 2))]) C (jd jdt_Mo_statementTold 2 rfl) (by decide) rfl rfl) ?_
  refine J_mono (w_aload_n C (jd jdt_Mo_statementTold 3 rfl) rfl) ?_
  refine J_mono (jg_Mo_333 C hp0 (jd jdt_Mo_statementTold 4 rfl)) ?_
  refine J_mono (w_bipush_70 C (jd jdt_Mo_statementTold 5 rfl)) ?_
  refine J_br (w_icmp_ne C (jd jdt_Mo_statementTold 6 rfl) rfl) (fun h1 => J_pos h1 ?_) (fun h1 => J_neg h1 ?_)
  · refine J_mono (w_aload_n C (jd jdt_Mo_statementTold 7 rfl) rfl) ?_
    refine J_mono (w_iconst_5 C (jd jdt_Mo_statementTold 8 rfl)) ?_
    refine J_mono (w_iload_n C (jd jdt_Mo_statementTold 9 rfl) rfl) ?_
    refine J_bind (fun q2 hq2 => ?_)
    refine J_mono (jc_Mo_248 C hp0 (C_Mo_fail l G F a0 5 (M.1 a0 2) hp0 M hq2) rfl (Nat.le_trans (Nat.le_of_ble_eq_true rfl : 1 + 1 ≤ 9) hD) (jd jdt_Mo_statementTold 10 rfl)) ?_
    exact J_some (fun hx => hR q2 hx _ _ (jd jdt_Mo_statementTold 11 rfl))
  · refine J_mono (w_aload_n C (jd jdt_Mo_statementTold 12 rfl) rfl) ?_
    refine J_mono (w_aload_n C (jd jdt_Mo_statementTold 13 rfl) rfl) ?_
    refine J_mono (jg_Mo_21 C hp0 (jd jdt_Mo_statementTold 14 rfl)) ?_
    refine J_bind (fun q3 hq3 => ?_)
    refine J_mono (jc_Mo_245 C hp0 (C_Mo_takes l G F a0 (jpf a0 11) hp0 (jkf_12_11 hp0) M hq3) rfl (Nat.le_trans (Nat.le_of_ble_eq_true rfl : 3 + 1 ≤ 9) hD) (jd jdt_Mo_statementTold 15 rfl)) ?_
    refine J_seq (fun (q4 : SM) => Wk p l e R s m args below meth c G 2 Q 0 0 jN0 (jce G q4) 198 [some (.ref a0), none] []) ?_ (fun q4 hq4 => ?_)
    · refine J_br (w_if_eq (y := 0) C (jd jdt_Mo_statementTold 16 rfl) rfl) (fun h5 => J_pos h5 ?_) (fun h5 => J_neg h5 ?_)
      · refine J_mono (w_aload_n C (jd jdt_Mo_statementTold 21 rfl) rfl) ?_
        refine J_mono (w_aload_n C (jd jdt_Mo_statementTold 22 rfl) rfl) ?_
        refine J_mono (jg_Mo_27 C hp0 (jd jdt_Mo_statementTold 23 rfl)) ?_
        refine J_bind (fun q6 hq6 => ?_)
        refine J_mono (jc_Mo_245 C hp0 (C_Mo_takes l G F a0 (jpf a0 13) hp0 (jkf_12_13 hp0) q3.2 hq6) rfl (Nat.le_trans (Nat.le_of_ble_eq_true rfl : 3 + 1 ≤ 9) hD) (jd jdt_Mo_statementTold 24 rfl)) ?_
        refine J_br (w_if_eq (y := 0) C (jd jdt_Mo_statementTold 25 rfl) rfl) (fun h7 => J_pos h7 ?_) (fun h7 => J_neg h7 ?_)
        · refine J_mono (w_aload_n C (jd jdt_Mo_statementTold 30 rfl) rfl) ?_
          refine J_mono (w_aload_n C (jd jdt_Mo_statementTold 31 rfl) rfl) ?_
          refine J_mono (jg_Mo_30 C hp0 (jd jdt_Mo_statementTold 32 rfl)) ?_
          refine J_bind (fun q8 hq8 => ?_)
          refine J_mono (jc_Mo_245 C hp0 (C_Mo_takes l G F a0 (jpf a0 14) hp0 (jkf_12_14 hp0) q6.2 hq8) rfl (Nat.le_trans (Nat.le_of_ble_eq_true rfl : 3 + 1 ≤ 9) hD) (jd jdt_Mo_statementTold 33 rfl)) ?_
          refine J_br (w_if_eq (y := 0) C (jd jdt_Mo_statementTold 34 rfl) rfl) (fun h9 => J_pos h9 ?_) (fun h9 => J_neg h9 ?_)
          · refine J_mono (w_aload_n C (jd jdt_Mo_statementTold 39 rfl) rfl) ?_
            refine J_mono (w_aload_n C (jd jdt_Mo_statementTold 40 rfl) rfl) ?_
            refine J_mono (jg_Mo_39 C hp0 (jd jdt_Mo_statementTold 41 rfl)) ?_
            refine J_bind (fun q10 hq10 => ?_)
            refine J_mono (jc_Mo_245 C hp0 (C_Mo_takes l G F a0 (jpf a0 17) hp0 (jkf_12_17 hp0) q8.2 hq10) rfl (Nat.le_trans (Nat.le_of_ble_eq_true rfl : 3 + 1 ≤ 9) hD) (jd jdt_Mo_statementTold 42 rfl)) ?_
            refine J_br (w_if_eq (y := 0) C (jd jdt_Mo_statementTold 43 rfl) rfl) (fun h11 => J_pos h11 ?_) (fun h11 => J_neg h11 ?_)
            · refine J_mono (w_aload_n C (jd jdt_Mo_statementTold 51 rfl) rfl) ?_
              refine J_mono (w_aload_n C (jd jdt_Mo_statementTold 52 rfl) rfl) ?_
              refine J_mono (jg_Mo_42 C hp0 (jd jdt_Mo_statementTold 53 rfl)) ?_
              refine J_bind (fun q12 hq12 => ?_)
              refine J_mono (jc_Mo_245 C hp0 (C_Mo_takes l G F a0 (jpf a0 18) hp0 (jkf_12_18 hp0) q10.2 hq12) rfl (Nat.le_trans (Nat.le_of_ble_eq_true rfl : 3 + 1 ≤ 9) hD) (jd jdt_Mo_statementTold 54 rfl)) ?_
              refine J_br (w_if_eq (y := 0) C (jd jdt_Mo_statementTold 55 rfl) rfl) (fun h13 => J_pos h13 ?_) (fun h13 => J_neg h13 ?_)
              · refine J_mono (w_aload_n C (jd jdt_Mo_statementTold 59 rfl) rfl) ?_
                refine J_mono (w_aload_n C (jd jdt_Mo_statementTold 60 rfl) rfl) ?_
                refine J_mono (jg_Mo_45 C hp0 (jd jdt_Mo_statementTold 61 rfl)) ?_
                refine J_bind (fun q14 hq14 => ?_)
                refine J_mono (jc_Mo_245 C hp0 (C_Mo_takes l G F a0 (jpf a0 19) hp0 (jkf_12_19 hp0) q12.2 hq14) rfl (Nat.le_trans (Nat.le_of_ble_eq_true rfl : 3 + 1 ≤ 9) hD) (jd jdt_Mo_statementTold 62 rfl)) ?_
                refine J_br (w_if_eq (y := 0) C (jd jdt_Mo_statementTold 63 rfl) rfl) (fun h15 => J_pos h15 ?_) (fun h15 => J_neg h15 ?_)
                · refine J_mono (w_aload_n C (jd jdt_Mo_statementTold 68 rfl) rfl) ?_
                  refine J_mono (w_aload_n C (jd jdt_Mo_statementTold 69 rfl) rfl) ?_
                  refine J_mono (jg_Mo_51 C hp0 (jd jdt_Mo_statementTold 70 rfl)) ?_
                  refine J_bind (fun q16 hq16 => ?_)
                  refine J_mono (jc_Mo_245 C hp0 (C_Mo_takes l G F a0 (jpf a0 21) hp0 (jkf_12_21 hp0) q14.2 hq16) rfl (Nat.le_trans (Nat.le_of_ble_eq_true rfl : 3 + 1 ≤ 9) hD) (jd jdt_Mo_statementTold 71 rfl)) ?_
                  refine J_br (w_if_eq (y := 0) C (jd jdt_Mo_statementTold 72 rfl) rfl) (fun h17 => J_pos h17 ?_) (fun h17 => J_neg h17 ?_)
                  · refine J_mono (w_aload_n C (jd jdt_Mo_statementTold 77 rfl) rfl) ?_
                    refine J_mono (w_aload_n C (jd jdt_Mo_statementTold 78 rfl) rfl) ?_
                    refine J_mono (jg_Mo_57 C hp0 (jd jdt_Mo_statementTold 79 rfl)) ?_
                    refine J_bind (fun q18 hq18 => ?_)
                    refine J_mono (jc_Mo_245 C hp0 (C_Mo_takes l G F a0 (jpf a0 23) hp0 (jkf_12_23 hp0) q16.2 hq18) rfl (Nat.le_trans (Nat.le_of_ble_eq_true rfl : 3 + 1 ≤ 9) hD) (jd jdt_Mo_statementTold 80 rfl)) ?_
                    refine J_br (w_if_eq (y := 0) C (jd jdt_Mo_statementTold 81 rfl) rfl) (fun h19 => J_pos h19 ?_) (fun h19 => J_neg h19 ?_)
                    · refine J_mono (w_aload_n C (jd jdt_Mo_statementTold 86 rfl) rfl) ?_
                      refine J_mono (w_aload_n C (jd jdt_Mo_statementTold 87 rfl) rfl) ?_
                      refine J_mono (jg_Mo_63 C hp0 (jd jdt_Mo_statementTold 88 rfl)) ?_
                      refine J_bind (fun q20 hq20 => ?_)
                      refine J_mono (jc_Mo_304 C hp0 (C_Mo_asks l G F a0 (jpf a0 25) hp0 (jkf_12_25 hp0) q18.2 hq20) rfl (Nat.le_trans (Nat.le_of_ble_eq_true rfl : 4 + 1 ≤ 9) hD) (jd jdt_Mo_statementTold 89 rfl)) ?_
                      refine J_mono (w_aload_n C (jd jdt_Mo_statementTold 90 rfl) rfl) ?_
                      refine J_mono (jg_Mo_103 C hp0 (jd jdt_Mo_statementTold 91 rfl)) ?_
                      refine J_mono (w_iconst_0 C (jd jdt_Mo_statementTold 92 rfl)) ?_
                      refine J_mono (w_aload_n C (jd jdt_Mo_statementTold 93 rfl) rfl) ?_
                      refine J_mono (w_iconst_1 C (jd jdt_Mo_statementTold 94 rfl)) ?_
                      refine J_mono (w_bipush_99 C (jd jdt_Mo_statementTold 95 rfl)) ?_
                      refine J_bind (fun q21 hq21 => ?_)
                      refine J_mono (jc_Mo_283 C hp0 (C_Mo_number l G F a0 1 99 hp0 q20 hq21) rfl (Nat.le_trans (Nat.le_of_ble_eq_true rfl : 2 + 1 ≤ 9) hD) (jd jdt_Mo_statementTold 96 rfl)) ?_
                      refine J_bind (fun M22 hM22 => ?_)
                      refine J_mono (w_iast C F (jkf_12_41 hp0) hM22 (jd jdt_Mo_statementTold 97 rfl)) ?_
                      exact J_some (fun hx => Wk_sb hx ⟨rfl, trivial⟩)
                    · refine J_mono (w_aload_n C (jd jdt_Mo_statementTold 82 rfl) rfl) ?_
                      refine J_mono (w_iload_n C (jd jdt_Mo_statementTold 83 rfl) rfl) ?_
                      refine J_bind (fun q23 hq23 => ?_)
                      refine J_mono (jc_Mo_352 C hp0 (C_Mo_claqueTold l G F a0 (M.1 a0 2) hp0 q18.2 hq23) rfl (Nat.le_trans (Nat.le_of_ble_eq_true rfl : 5 + 1 ≤ 9) hD) (jd jdt_Mo_statementTold 84 rfl)) ?_
                      refine J_mono (w_goto C (jd jdt_Mo_statementTold 85 rfl) rfl) ?_
                      exact J_some (fun hx => Wk_sb hx ⟨rfl, trivial⟩)
                  · refine J_mono (w_aload_n C (jd jdt_Mo_statementTold 73 rfl) rfl) ?_
                    refine J_mono (w_iload_n C (jd jdt_Mo_statementTold 74 rfl) rfl) ?_
                    refine J_bind (fun q24 hq24 => ?_)
                    refine J_mono (jc_Mo_349 C hp0 (C_Mo_boatTold l G F a0 (M.1 a0 2) hp0 q16.2 hq24) rfl (Nat.le_trans (Nat.le_of_ble_eq_true rfl : 6 + 1 ≤ 9) hD) (jd jdt_Mo_statementTold 75 rfl)) ?_
                    refine J_mono (w_goto C (jd jdt_Mo_statementTold 76 rfl) rfl) ?_
                    exact J_some (fun hx => Wk_sb hx ⟨rfl, trivial⟩)
                · refine J_mono (w_aload_n C (jd jdt_Mo_statementTold 64 rfl) rfl) ?_
                  refine J_mono (w_iload_n C (jd jdt_Mo_statementTold 65 rfl) rfl) ?_
                  refine J_bind (fun q25 hq25 => ?_)
                  refine J_mono (jc_Mo_346 C hp0 (C_Mo_millTold l G F a0 (M.1 a0 2) hp0 q14.2 hq25) rfl (Nat.le_trans (Nat.le_of_ble_eq_true rfl : 6 + 1 ≤ 9) hD) (jd jdt_Mo_statementTold 66 rfl)) ?_
                  refine J_mono (w_goto C (jd jdt_Mo_statementTold 67 rfl) rfl) ?_
                  exact J_some (fun hx => Wk_sb hx ⟨rfl, trivial⟩)
              · refine J_mono (w_aload_n C (jd jdt_Mo_statementTold 56 rfl) rfl) ?_
                refine J_bind (fun q26 hq26 => ?_)
                refine J_mono (jc_Mo_343 C hp0 (C_Mo_sluiceTold l G F a0 hp0 q12.2 hq26) rfl (Nat.le_trans (Nat.le_of_ble_eq_true rfl : 4 + 1 ≤ 9) hD) (jd jdt_Mo_statementTold 57 rfl)) ?_
                refine J_mono (w_goto C (jd jdt_Mo_statementTold 58 rfl) rfl) ?_
                exact J_some (fun hx => Wk_sb hx ⟨rfl, trivial⟩)
            · refine J_mono (w_aload_n C (jd jdt_Mo_statementTold 44 rfl) rfl) ?_
              refine J_mono (jg_Mo_100 C hp0 (jd jdt_Mo_statementTold 45 rfl)) ?_
              refine J_mono (w_iconst_0 C (jd jdt_Mo_statementTold 46 rfl)) ?_
              refine J_mono (w_aload_n C (jd jdt_Mo_statementTold 47 rfl) rfl) ?_
              refine J_bind (fun q27 hq27 => ?_)
              refine J_mono (jc_Mo_330 C hp0 (C_Mo_cellTold l G F a0 hp0 q10.2 hq27) rfl (Nat.le_trans (Nat.le_of_ble_eq_true rfl : 3 + 1 ≤ 9) hD) (jd jdt_Mo_statementTold 48 rfl)) ?_
              refine J_bind (fun M28 hM28 => ?_)
              refine J_mono (w_iast C F (jkf_12_40 hp0) hM28 (jd jdt_Mo_statementTold 49 rfl)) ?_
              refine J_mono (w_goto C (jd jdt_Mo_statementTold 50 rfl) rfl) ?_
              exact J_some (fun hx => Wk_sb hx ⟨rfl, trivial⟩)
          · refine J_mono (w_aload_n C (jd jdt_Mo_statementTold 35 rfl) rfl) ?_
            refine J_mono (w_iload_n C (jd jdt_Mo_statementTold 36 rfl) rfl) ?_
            refine J_bind (fun q29 hq29 => ?_)
            refine J_mono (jc_Mo_340 C hp0 (C_Mo_deskTold l G F a0 (M.1 a0 2) hp0 q8.2 hq29) rfl (Nat.le_trans (Nat.le_of_ble_eq_true rfl : 8 + 1 ≤ 9) hD) (jd jdt_Mo_statementTold 37 rfl)) ?_
            refine J_mono (w_goto C (jd jdt_Mo_statementTold 38 rfl) rfl) ?_
            exact J_some (fun hx => Wk_sb hx ⟨rfl, trivial⟩)
        · refine J_mono (w_aload_n C (jd jdt_Mo_statementTold 26 rfl) rfl) ?_
          refine J_mono (w_iconst_0 C (jd jdt_Mo_statementTold 27 rfl)) ?_
          refine J_bind (fun q30 hq30 => ?_)
          refine J_mono (jc_Mo_336 C hp0 (C_Mo_cellIsTold l G F a0 0 hp0 q6.2 hq30) rfl (Nat.le_trans (Nat.le_of_ble_eq_true rfl : 5 + 1 ≤ 9) hD) (jd jdt_Mo_statementTold 28 rfl)) ?_
          refine J_mono (w_goto C (jd jdt_Mo_statementTold 29 rfl) rfl) ?_
          exact J_some (fun hx => Wk_sb hx ⟨rfl, trivial⟩)
      · refine J_mono (w_aload_n C (jd jdt_Mo_statementTold 17 rfl) rfl) ?_
        refine J_mono (w_iconst_1 C (jd jdt_Mo_statementTold 18 rfl)) ?_
        refine J_bind (fun q31 hq31 => ?_)
        refine J_mono (jc_Mo_336 C hp0 (C_Mo_cellIsTold l G F a0 1 hp0 q3.2 hq31) rfl (Nat.le_trans (Nat.le_of_ble_eq_true rfl : 5 + 1 ≤ 9) hD) (jd jdt_Mo_statementTold 19 rfl)) ?_
        refine J_mono (w_goto C (jd jdt_Mo_statementTold 20 rfl) rfl) ?_
        exact J_some (fun hx => Wk_sb hx ⟨rfl, trivial⟩)
    · refine J_mono (w_aload_n C (jd jdt_Mo_statementTold 98 rfl) rfl) ?_
      refine J_mono (w_bipush_59 C (jd jdt_Mo_statementTold 99 rfl)) ?_
      refine J_bind (fun q32 hq32 => ?_)
      refine J_mono (jc_Mo_301 C hp0 (C_Mo_asksSign l G F a0 59 hp0 q4 hq32) rfl (Nat.le_trans (Nat.le_of_ble_eq_true rfl : 3 + 1 ≤ 9) hD) (jd jdt_Mo_statementTold 100 rfl)) ?_
      refine J_mono (w_aload_n C (jd jdt_Mo_statementTold 101 rfl) rfl) ?_
      refine J_mono (w_dup_r C (jd jdt_Mo_statementTold 102 rfl)) ?_
      refine J_mono (jg_Mo_333 C hp0 (jd jdt_Mo_statementTold 103 rfl)) ?_
      refine J_mono (w_iconst_1 C (jd jdt_Mo_statementTold 104 rfl)) ?_
      refine J_mono (w_iadd C (jd jdt_Mo_statementTold 105 rfl)) ?_
      refine J_mono (jp_Mo_333 C F hp0 (jd jdt_Mo_statementTold 106 rfl)) ?_
      exact J_some (fun hx => hR (sI q32 a0 42 ((q32.1 a0 42) + 1)) hx _ _ (jd jdt_Mo_statementTold 107 rfl))
end
theorem C_Mo_statementTold (l : Launch) (G : JG) (F : jF G = false) (a0 : Nat) (hp0 : jkd a0 12) (M : SM) {q : SM} (hf : f_Mo_statementTold a0 M = some q) : jMet l jy_Mo_statementTold jb_Mo_statementTold 2 none 9 0 0 G [.ref a0] jN0 (jce G M) none jN0 (jce G q) :=
  j_met jo_Mo_statementTold (by decide) (Nat.le_of_ble_eq_true rfl) (fun p e s m args below meth c C hr hm => K_Mo_statementTold C F (Nat.le_refl _) a0 hp0 M (fun t => t = q) (fun M' hX pc ls hd => by cases hX; exact w_vret C hr hd) _ hf rfl)
def lp_Mo_begins_2 (y0 : Nat) : Nat → Int32 → SM → Option (SM)
  | 0, _, _ => none
  | n + 1, x1, M => if x1 < 12 then ((aI M (jpf y0 33) (12 + x1)).bind fun v2 => (aS M (jpf y0 52) x1 v2).bind fun M3 => lp_Mo_begins_2 y0 n (x1 + 1) M3) else (some M)
def lp_Mo_begins_31 (y0 : Nat) : Nat → Int32 → SM → Option (SM)
  | 0, _, _ => none
  | n + 1, x1, M => if x1 < 4 then ((aI M (jpf y0 38) (8 + (2 * x1))).bind fun v6 => (aS M (jpf y0 53) x1 v6).bind fun M7 => lp_Mo_begins_31 y0 n (x1 + 1) M7) else (some M)
def f_Mo_begins (a0 : Nat) (M : SM) : Option SM := (lp_Mo_begins_2 a0 jfuel 0 M).bind fun q4 => (lp_Mo_begins_31 a0 jfuel 0 q4).bind fun q8 => some q8
section
variable {p : Program} {l : Launch} {e : Env} {R : Room} {s : State} {m : MethodId} {args : Array Value} {below : List Frame} {meth : Method} {c : Code} {G : JG} {D : Nat} {Q : State → Prop}
set_option maxHeartbeats 4000000 in
set_option maxRecDepth 20000 in
theorem K_Mo_begins (C : jCx p R s m args meth c G jb_Mo_begins 2 D "SluicePitModel") (F : jF G = false) (hD : 1 ≤ D) (a0 : Nat) (hp0 : jkd a0 12) (M : SM) (X : SM → Prop) (hR : ∀ M', X M' → ∀ (pc : Nat) (ls : List (Option Value)), decode jb_Mo_begins pc = .ok (.return_, 1) → Wk p l e R s m args below meth c G 2 Q 0 0 jN0 (jce G M') pc ls []) : J X (f_Mo_begins a0 M) (Wk p l e R s m args below meth c G 2 Q 0 0 jN0 (jce G M) 0 [some (.ref a0), none] []) := by
  unfold f_Mo_begins
  refine J_mono (w_iconst_0 C (jd jdt_Mo_begins 0 rfl)) ?_
  refine J_mono (w_istore_n (ls' := [some (.ref a0), some (.int 0)]) C (jd jdt_Mo_begins 1 rfl) (by decide) rfl rfl) ?_
  have L2 : ∀ (y0 : Nat) (hy0 : jkd y0 12) (n : Nat) (x1 : Int32) (M : SM), J (fun (q4 : SM) => Wk p l e R s m args below meth c G 2 Q 0 0 jN0 (jce G q4) 29 [some (.ref y0), none] []) (lp_Mo_begins_2 y0 n x1 M) (Wk p l e R s m args below meth c G 2 Q 0 0 jN0 (jce G M) 2 [some (.ref y0), some (.int x1)] []) := by
    intro y0 hy0 n
    induction n with
    | zero => intro x1 M; exact J_none
    | succ n ih =>
      intro x1 M
      unfold lp_Mo_begins_2
      refine J_mono (w_iload_n C (jd jdt_Mo_begins 2 rfl) rfl) ?_
      refine J_mono (w_bipush_12 C (jd jdt_Mo_begins 3 rfl)) ?_
      refine J_br (w_icmp_ge C (jd jdt_Mo_begins 4 rfl) rfl) (fun h1 => J_pos h1 ?_) (fun h1 => J_neg h1 ?_)
      · refine J_mono (w_aload_n C (jd jdt_Mo_begins 5 rfl) rfl) ?_
        refine J_mono (jg_Mo_118 C hy0 (jd jdt_Mo_begins 6 rfl)) ?_
        refine J_mono (w_iload_n C (jd jdt_Mo_begins 7 rfl) rfl) ?_
        refine J_mono (w_aload_n C (jd jdt_Mo_begins 8 rfl) rfl) ?_
        refine J_mono (jg_Mo_79 C hy0 (jd jdt_Mo_begins 9 rfl)) ?_
        refine J_mono (w_bipush_12 C (jd jdt_Mo_begins 10 rfl)) ?_
        refine J_mono (w_iload_n C (jd jdt_Mo_begins 11 rfl) rfl) ?_
        refine J_mono (w_iadd C (jd jdt_Mo_begins 12 rfl)) ?_
        refine J_bind (fun v2 hv2 => ?_)
        refine J_mono (w_iald C (jkf_12_33 hy0) hv2 (jd jdt_Mo_begins 13 rfl)) ?_
        refine J_bind (fun M3 hM3 => ?_)
        refine J_mono (w_iast C F (jkf_12_52 hy0) hM3 (jd jdt_Mo_begins 14 rfl)) ?_
        refine J_mono (w_iinc (v := x1 + 1) (ls' := [some (.ref y0), some (.int (x1 + 1))]) C (jd jdt_Mo_begins 15 rfl) rfl rfl (by decide) rfl rfl) ?_
        refine J_mono (w_goto C (jd jdt_Mo_begins 16 rfl) rfl) ?_
        exact J_sub (ih (x1 + 1) M3) ⟨rfl, rfl, trivial⟩
      · exact J_some (fun hx => Wk_sb hx ⟨rfl, trivial⟩)
  refine J_seq (fun (q4 : SM) => Wk p l e R s m args below meth c G 2 Q 0 0 jN0 (jce G q4) 29 [some (.ref a0), none] []) (J_sub (L2 a0 hp0 jfuel 0 M) ⟨rfl, rfl, trivial⟩) (fun q4 hq4 => ?_)
  refine J_mono (w_iconst_0 C (jd jdt_Mo_begins 17 rfl)) ?_
  refine J_mono (w_istore_n (ls' := [some (.ref a0), some (.int 0)]) C (jd jdt_Mo_begins 18 rfl) (by decide) rfl rfl) ?_
  have L31 : ∀ (y0 : Nat) (hy0 : jkd y0 12) (n : Nat) (x1 : Int32) (M : SM), J (fun (q8 : SM) => Wk p l e R s m args below meth c G 2 Q 0 0 jN0 (jce G q8) 59 [none, none] []) (lp_Mo_begins_31 y0 n x1 M) (Wk p l e R s m args below meth c G 2 Q 0 0 jN0 (jce G M) 31 [some (.ref y0), some (.int x1)] []) := by
    intro y0 hy0 n
    induction n with
    | zero => intro x1 M; exact J_none
    | succ n ih =>
      intro x1 M
      unfold lp_Mo_begins_31
      refine J_mono (w_iload_n C (jd jdt_Mo_begins 19 rfl) rfl) ?_
      refine J_mono (w_iconst_4 C (jd jdt_Mo_begins 20 rfl)) ?_
      refine J_br (w_icmp_ge C (jd jdt_Mo_begins 21 rfl) rfl) (fun h5 => J_pos h5 ?_) (fun h5 => J_neg h5 ?_)
      · refine J_mono (w_aload_n C (jd jdt_Mo_begins 22 rfl) rfl) ?_
        refine J_mono (jg_Mo_121 C hy0 (jd jdt_Mo_begins 23 rfl)) ?_
        refine J_mono (w_iload_n C (jd jdt_Mo_begins 24 rfl) rfl) ?_
        refine J_mono (w_aload_n C (jd jdt_Mo_begins 25 rfl) rfl) ?_
        refine J_mono (jg_Mo_94 C hy0 (jd jdt_Mo_begins 26 rfl)) ?_
        refine J_mono (w_bipush_8 C (jd jdt_Mo_begins 27 rfl)) ?_
        refine J_mono (w_iconst_2 C (jd jdt_Mo_begins 28 rfl)) ?_
        refine J_mono (w_iload_n C (jd jdt_Mo_begins 29 rfl) rfl) ?_
        refine J_mono (w_imul C (jd jdt_Mo_begins 30 rfl)) ?_
        refine J_mono (w_iadd C (jd jdt_Mo_begins 31 rfl)) ?_
        refine J_bind (fun v6 hv6 => ?_)
        refine J_mono (w_iald C (jkf_12_38 hy0) hv6 (jd jdt_Mo_begins 32 rfl)) ?_
        refine J_bind (fun M7 hM7 => ?_)
        refine J_mono (w_iast C F (jkf_12_53 hy0) hM7 (jd jdt_Mo_begins 33 rfl)) ?_
        refine J_mono (w_iinc (v := x1 + 1) (ls' := [some (.ref y0), some (.int (x1 + 1))]) C (jd jdt_Mo_begins 34 rfl) rfl rfl (by decide) rfl rfl) ?_
        refine J_mono (w_goto C (jd jdt_Mo_begins 35 rfl) rfl) ?_
        exact J_sub (ih (x1 + 1) M7) ⟨rfl, rfl, trivial⟩
      · exact J_some (fun hx => Wk_sb hx trivial)
  refine J_seq (fun (q8 : SM) => Wk p l e R s m args below meth c G 2 Q 0 0 jN0 (jce G q8) 59 [none, none] []) (J_sub (L31 a0 hp0 jfuel 0 q4) ⟨rfl, rfl, trivial⟩) (fun q8 hq8 => ?_)
  exact J_some (fun hx => hR q8 hx _ _ (jd jdt_Mo_begins 36 rfl))
end
theorem C_Mo_begins (l : Launch) (G : JG) (F : jF G = false) (a0 : Nat) (hp0 : jkd a0 12) (M : SM) {q : SM} (hf : f_Mo_begins a0 M = some q) : jMet l jy_Mo_begins jb_Mo_begins 2 none 1 0 0 G [.ref a0] jN0 (jce G M) none jN0 (jce G q) :=
  j_met jo_Mo_begins (by decide) (Nat.le_of_ble_eq_true rfl) (fun p e s m args below meth c C hr hm => K_Mo_begins C F (Nat.le_refl _) a0 hp0 M (fun t => t = q) (fun M' hX pc ls hd => by cases hX; exact w_vret C hr hd) _ hf rfl)
def lp_Mo_waterAll_4 (y0 : Nat) (M : SM) : Nat → Int32 → Int32 → Option (Int32)
  | 0, _, _ => none
  | n + 1, x1, x2 => if x2 < (M.1 y0 31) then ((aI M (jpf y0 52) x2).bind fun v2 => lp_Mo_waterAll_4 y0 M n (x1 + v2) (x2 + 1)) else (some x1)
def f_Mo_waterAll (a0 : Nat) (M : SM) : Option Int32 := (lp_Mo_waterAll_4 a0 M jfuel 0 0).bind fun q3 => some q3
section
variable {p : Program} {l : Launch} {e : Env} {R : Room} {s : State} {m : MethodId} {args : Array Value} {below : List Frame} {meth : Method} {c : Code} {G : JG} {D : Nat} {Q : State → Prop}
set_option maxHeartbeats 4000000 in
set_option maxRecDepth 20000 in
theorem K_Mo_waterAll (C : jCx p R s m args meth c G jb_Mo_waterAll 3 D "SluicePitModel") (F : jF G = false) (hD : 1 ≤ D) (a0 : Nat) (hp0 : jkd a0 12) (M : SM) (X : Int32 → Prop) (hR : ∀ v, X v → ∀ (pc : Nat) (ls : List (Option Value)), decode jb_Mo_waterAll pc = .ok (.ireturn, 1) → narrow FieldType.int (.int v) = .int v → Wk p l e R s m args below meth c G 3 Q 0 0 jN0 (jce G M) pc ls [.int v]) : J X (f_Mo_waterAll a0 M) (Wk p l e R s m args below meth c G 3 Q 0 0 jN0 (jce G M) 0 [some (.ref a0), none, none] []) := by
  unfold f_Mo_waterAll
  refine J_mono (w_iconst_0 C (jd jdt_Mo_waterAll 0 rfl)) ?_
  refine J_mono (w_istore_n (ls' := [some (.ref a0), some (.int 0), none]) C (jd jdt_Mo_waterAll 1 rfl) (by decide) rfl rfl) ?_
  refine J_mono (w_iconst_0 C (jd jdt_Mo_waterAll 2 rfl)) ?_
  refine J_mono (w_istore_n (ls' := [some (.ref a0), some (.int 0), some (.int 0)]) C (jd jdt_Mo_waterAll 3 rfl) (by decide) rfl rfl) ?_
  have L4 : ∀ (y0 : Nat) (hy0 : jkd y0 12) (n : Nat) (x1 : Int32) (x2 : Int32), J (fun (q3 : Int32) => Wk p l e R s m args below meth c G 3 Q 0 0 jN0 (jce G M) 27 [none, some (.int q3), none] []) (lp_Mo_waterAll_4 y0 M n x1 x2) (Wk p l e R s m args below meth c G 3 Q 0 0 jN0 (jce G M) 4 [some (.ref y0), some (.int x1), some (.int x2)] []) := by
    intro y0 hy0 n
    induction n with
    | zero => intro x1 x2; exact J_none
    | succ n ih =>
      intro x1 x2
      unfold lp_Mo_waterAll_4
      refine J_mono (w_iload_n C (jd jdt_Mo_waterAll 4 rfl) rfl) ?_
      refine J_mono (w_aload_n C (jd jdt_Mo_waterAll 5 rfl) rfl) ?_
      refine J_mono (jg_Mo_367 C hy0 (jd jdt_Mo_waterAll 6 rfl)) ?_
      refine J_br (w_icmp_ge C (jd jdt_Mo_waterAll 7 rfl) rfl) (fun h1 => J_pos h1 ?_) (fun h1 => J_neg h1 ?_)
      · refine J_mono (w_iload_n C (jd jdt_Mo_waterAll 8 rfl) rfl) ?_
        refine J_mono (w_aload_n C (jd jdt_Mo_waterAll 9 rfl) rfl) ?_
        refine J_mono (jg_Mo_118 C hy0 (jd jdt_Mo_waterAll 10 rfl)) ?_
        refine J_mono (w_iload_n C (jd jdt_Mo_waterAll 11 rfl) rfl) ?_
        refine J_bind (fun v2 hv2 => ?_)
        refine J_mono (w_iald C (jkf_12_52 hy0) hv2 (jd jdt_Mo_waterAll 12 rfl)) ?_
        refine J_mono (w_iadd C (jd jdt_Mo_waterAll 13 rfl)) ?_
        refine J_mono (w_istore_n (ls' := [some (.ref y0), some (.int (x1 + v2)), some (.int x2)]) C (jd jdt_Mo_waterAll 14 rfl) (by decide) rfl rfl) ?_
        refine J_mono (w_iinc (v := x2 + 1) (ls' := [some (.ref y0), some (.int (x1 + v2)), some (.int (x2 + 1))]) C (jd jdt_Mo_waterAll 15 rfl) rfl rfl (by decide) rfl rfl) ?_
        refine J_mono (w_goto C (jd jdt_Mo_waterAll 16 rfl) rfl) ?_
        exact J_sub (ih (x1 + v2) (x2 + 1)) ⟨rfl, rfl, rfl, trivial⟩
      · exact J_some (fun hx => Wk_sb hx ⟨rfl, trivial⟩)
  refine J_seq (fun (q3 : Int32) => Wk p l e R s m args below meth c G 3 Q 0 0 jN0 (jce G M) 27 [none, some (.int q3), none] []) (J_sub (L4 a0 hp0 jfuel 0 0) ⟨rfl, rfl, rfl, trivial⟩) (fun q3 hq3 => ?_)
  refine J_mono (w_iload_n C (jd jdt_Mo_waterAll 17 rfl) rfl) ?_
  exact J_some (fun hx => hR q3 hx _ _ (jd jdt_Mo_waterAll 18 rfl) rfl)
end
theorem C_Mo_waterAll (l : Launch) (G : JG) (F : jF G = false) (a0 : Nat) (hp0 : jkd a0 12) (M : SM) {q : Int32} (hf : f_Mo_waterAll a0 M = some q) : jMet l jy_Mo_waterAll jb_Mo_waterAll 3 (some FieldType.int) 1 0 0 G [.ref a0] jN0 (jce G M) (some (.int q)) jN0 (jce G M) :=
  j_met jo_Mo_waterAll (by decide) (Nat.le_of_ble_eq_true rfl) (fun p e s m args below meth c C hr hm => K_Mo_waterAll C F (Nat.le_refl _) a0 hp0 M (fun t => t = q) (fun v hX pc ls hd hn => by cases hX; exact w_iret C hr hn hd) _ hf rfl)
def lp_Mo_notes_2 (y0 : Nat) (y1 : Int32) : Nat → Int32 → SM → Option (SM)
  | 0, _, _ => none
  | n + 1, x2, M => if x2 < 12 then ((aI M (jpf y0 52) x2).bind fun v2 => (aS M (jpf y0 59) ((12 * y1) + x2) v2).bind fun M3 => lp_Mo_notes_2 y0 y1 n (x2 + 1) M3) else (some M)
def lp_Mo_notes_33 (y0 : Nat) (y1 : Int32) : Nat → Int32 → SM → Option (SM)
  | 0, _, _ => none
  | n + 1, x2, M => if x2 < 4 then ((aI M (jpf y0 53) x2).bind fun v6 => (aS M (jpf y0 60) ((4 * y1) + x2) v6).bind fun M7 => lp_Mo_notes_33 y0 y1 n (x2 + 1) M7) else (some M)
def f_Mo_notes (a0 : Nat) (a1 : Int32) (M : SM) : Option SM := (lp_Mo_notes_2 a0 a1 jfuel 0 M).bind fun q4 => (lp_Mo_notes_33 a0 a1 jfuel 0 q4).bind fun q8 => (f_Mo_waterAll a0 q8).bind fun q9 => (aS q8 (jpf a0 61) ((6 * a1) + 4) q9).bind fun M10 => some M10
section
variable {p : Program} {l : Launch} {e : Env} {R : Room} {s : State} {m : MethodId} {args : Array Value} {below : List Frame} {meth : Method} {c : Code} {G : JG} {D : Nat} {Q : State → Prop}
set_option maxHeartbeats 4000000 in
set_option maxRecDepth 20000 in
theorem K_Mo_notes (C : jCx p R s m args meth c G jb_Mo_notes 3 D "SluicePitModel") (F : jF G = false) (hD : 2 ≤ D) (a0 : Nat) (a1 : Int32) (hp0 : jkd a0 12) (M : SM) (X : SM → Prop) (hR : ∀ M', X M' → ∀ (pc : Nat) (ls : List (Option Value)), decode jb_Mo_notes pc = .ok (.return_, 1) → Wk p l e R s m args below meth c G 3 Q 0 0 jN0 (jce G M') pc ls []) : J X (f_Mo_notes a0 a1 M) (Wk p l e R s m args below meth c G 3 Q 0 0 jN0 (jce G M) 0 [some (.ref a0), some (.int a1), none] []) := by
  unfold f_Mo_notes
  refine J_mono (w_iconst_0 C (jd jdt_Mo_notes 0 rfl)) ?_
  refine J_mono (w_istore_n (ls' := [some (.ref a0), some (.int a1), some (.int 0)]) C (jd jdt_Mo_notes 1 rfl) (by decide) rfl rfl) ?_
  have L2 : ∀ (y0 : Nat) (y1 : Int32) (hy0 : jkd y0 12) (n : Nat) (x2 : Int32) (M : SM), J (fun (q4 : SM) => Wk p l e R s m args below meth c G 3 Q 0 0 jN0 (jce G q4) 31 [some (.ref y0), some (.int y1), none] []) (lp_Mo_notes_2 y0 y1 n x2 M) (Wk p l e R s m args below meth c G 3 Q 0 0 jN0 (jce G M) 2 [some (.ref y0), some (.int y1), some (.int x2)] []) := by
    intro y0 y1 hy0 n
    induction n with
    | zero => intro x2 M; exact J_none
    | succ n ih =>
      intro x2 M
      unfold lp_Mo_notes_2
      refine J_mono (w_iload_n C (jd jdt_Mo_notes 2 rfl) rfl) ?_
      refine J_mono (w_bipush_12 C (jd jdt_Mo_notes 3 rfl)) ?_
      refine J_br (w_icmp_ge C (jd jdt_Mo_notes 4 rfl) rfl) (fun h1 => J_pos h1 ?_) (fun h1 => J_neg h1 ?_)
      · refine J_mono (w_aload_n C (jd jdt_Mo_notes 5 rfl) rfl) ?_
        refine J_mono (jg_Mo_124 C hy0 (jd jdt_Mo_notes 6 rfl)) ?_
        refine J_mono (w_bipush_12 C (jd jdt_Mo_notes 7 rfl)) ?_
        refine J_mono (w_iload_n C (jd jdt_Mo_notes 8 rfl) rfl) ?_
        refine J_mono (w_imul C (jd jdt_Mo_notes 9 rfl)) ?_
        refine J_mono (w_iload_n C (jd jdt_Mo_notes 10 rfl) rfl) ?_
        refine J_mono (w_iadd C (jd jdt_Mo_notes 11 rfl)) ?_
        refine J_mono (w_aload_n C (jd jdt_Mo_notes 12 rfl) rfl) ?_
        refine J_mono (jg_Mo_118 C hy0 (jd jdt_Mo_notes 13 rfl)) ?_
        refine J_mono (w_iload_n C (jd jdt_Mo_notes 14 rfl) rfl) ?_
        refine J_bind (fun v2 hv2 => ?_)
        refine J_mono (w_iald C (jkf_12_52 hy0) hv2 (jd jdt_Mo_notes 15 rfl)) ?_
        refine J_bind (fun M3 hM3 => ?_)
        refine J_mono (w_iast C F (jkf_12_59 hy0) hM3 (jd jdt_Mo_notes 16 rfl)) ?_
        refine J_mono (w_iinc (v := x2 + 1) (ls' := [some (.ref y0), some (.int y1), some (.int (x2 + 1))]) C (jd jdt_Mo_notes 17 rfl) rfl rfl (by decide) rfl rfl) ?_
        refine J_mono (w_goto C (jd jdt_Mo_notes 18 rfl) rfl) ?_
        exact J_sub (ih (x2 + 1) M3) ⟨rfl, rfl, rfl, trivial⟩
      · exact J_some (fun hx => Wk_sb hx ⟨rfl, rfl, trivial⟩)
  refine J_seq (fun (q4 : SM) => Wk p l e R s m args below meth c G 3 Q 0 0 jN0 (jce G q4) 31 [some (.ref a0), some (.int a1), none] []) (J_sub (L2 a0 a1 hp0 jfuel 0 M) ⟨rfl, rfl, rfl, trivial⟩) (fun q4 hq4 => ?_)
  refine J_mono (w_iconst_0 C (jd jdt_Mo_notes 19 rfl)) ?_
  refine J_mono (w_istore_n (ls' := [some (.ref a0), some (.int a1), some (.int 0)]) C (jd jdt_Mo_notes 20 rfl) (by decide) rfl rfl) ?_
  have L33 : ∀ (y0 : Nat) (y1 : Int32) (hy0 : jkd y0 12) (n : Nat) (x2 : Int32) (M : SM), J (fun (q8 : SM) => Wk p l e R s m args below meth c G 3 Q 0 0 jN0 (jce G q8) 60 [some (.ref y0), some (.int y1), none] []) (lp_Mo_notes_33 y0 y1 n x2 M) (Wk p l e R s m args below meth c G 3 Q 0 0 jN0 (jce G M) 33 [some (.ref y0), some (.int y1), some (.int x2)] []) := by
    intro y0 y1 hy0 n
    induction n with
    | zero => intro x2 M; exact J_none
    | succ n ih =>
      intro x2 M
      unfold lp_Mo_notes_33
      refine J_mono (w_iload_n C (jd jdt_Mo_notes 21 rfl) rfl) ?_
      refine J_mono (w_iconst_4 C (jd jdt_Mo_notes 22 rfl)) ?_
      refine J_br (w_icmp_ge C (jd jdt_Mo_notes 23 rfl) rfl) (fun h5 => J_pos h5 ?_) (fun h5 => J_neg h5 ?_)
      · refine J_mono (w_aload_n C (jd jdt_Mo_notes 24 rfl) rfl) ?_
        refine J_mono (jg_Mo_127 C hy0 (jd jdt_Mo_notes 25 rfl)) ?_
        refine J_mono (w_iconst_4 C (jd jdt_Mo_notes 26 rfl)) ?_
        refine J_mono (w_iload_n C (jd jdt_Mo_notes 27 rfl) rfl) ?_
        refine J_mono (w_imul C (jd jdt_Mo_notes 28 rfl)) ?_
        refine J_mono (w_iload_n C (jd jdt_Mo_notes 29 rfl) rfl) ?_
        refine J_mono (w_iadd C (jd jdt_Mo_notes 30 rfl)) ?_
        refine J_mono (w_aload_n C (jd jdt_Mo_notes 31 rfl) rfl) ?_
        refine J_mono (jg_Mo_121 C hy0 (jd jdt_Mo_notes 32 rfl)) ?_
        refine J_mono (w_iload_n C (jd jdt_Mo_notes 33 rfl) rfl) ?_
        refine J_bind (fun v6 hv6 => ?_)
        refine J_mono (w_iald C (jkf_12_53 hy0) hv6 (jd jdt_Mo_notes 34 rfl)) ?_
        refine J_bind (fun M7 hM7 => ?_)
        refine J_mono (w_iast C F (jkf_12_60 hy0) hM7 (jd jdt_Mo_notes 35 rfl)) ?_
        refine J_mono (w_iinc (v := x2 + 1) (ls' := [some (.ref y0), some (.int y1), some (.int (x2 + 1))]) C (jd jdt_Mo_notes 36 rfl) rfl rfl (by decide) rfl rfl) ?_
        refine J_mono (w_goto C (jd jdt_Mo_notes 37 rfl) rfl) ?_
        exact J_sub (ih (x2 + 1) M7) ⟨rfl, rfl, rfl, trivial⟩
      · exact J_some (fun hx => Wk_sb hx ⟨rfl, rfl, trivial⟩)
  refine J_seq (fun (q8 : SM) => Wk p l e R s m args below meth c G 3 Q 0 0 jN0 (jce G q8) 60 [some (.ref a0), some (.int a1), none] []) (J_sub (L33 a0 a1 hp0 jfuel 0 q4) ⟨rfl, rfl, rfl, trivial⟩) (fun q8 hq8 => ?_)
  refine J_mono (w_aload_n C (jd jdt_Mo_notes 38 rfl) rfl) ?_
  refine J_mono (jg_Mo_130 C hp0 (jd jdt_Mo_notes 39 rfl)) ?_
  refine J_mono (w_bipush_6 C (jd jdt_Mo_notes 40 rfl)) ?_
  refine J_mono (w_iload_n C (jd jdt_Mo_notes 41 rfl) rfl) ?_
  refine J_mono (w_imul C (jd jdt_Mo_notes 42 rfl)) ?_
  refine J_mono (w_iconst_4 C (jd jdt_Mo_notes 43 rfl)) ?_
  refine J_mono (w_iadd C (jd jdt_Mo_notes 44 rfl)) ?_
  refine J_mono (w_aload_n C (jd jdt_Mo_notes 45 rfl) rfl) ?_
  refine J_bind (fun q9 hq9 => ?_)
  refine J_mono (jc_Mo_434 C hp0 (C_Mo_waterAll l G F a0 hp0 q8 hq9) rfl (Nat.le_trans (Nat.le_of_ble_eq_true rfl : 1 + 1 ≤ 2) hD) (jd jdt_Mo_notes 46 rfl)) ?_
  refine J_bind (fun M10 hM10 => ?_)
  refine J_mono (w_iast C F (jkf_12_61 hp0) hM10 (jd jdt_Mo_notes 47 rfl)) ?_
  exact J_some (fun hx => hR M10 hx _ _ (jd jdt_Mo_notes 48 rfl))
end
theorem C_Mo_notes (l : Launch) (G : JG) (F : jF G = false) (a0 : Nat) (a1 : Int32) (hp0 : jkd a0 12) (M : SM) {q : SM} (hf : f_Mo_notes a0 a1 M = some q) : jMet l jy_Mo_notes jb_Mo_notes 3 none 2 0 0 G [.ref a0, .int a1] jN0 (jce G M) none jN0 (jce G q) :=
  j_met jo_Mo_notes (by decide) (Nat.le_of_ble_eq_true rfl) (fun p e s m args below meth c C hr hm => K_Mo_notes C F (Nat.le_refl _) a0 a1 hp0 M (fun t => t = q) (fun M' hX pc ls hd => by cases hX; exact w_vret C hr hd) _ hf rfl)
def f_Mo_deskMany (a0 : Nat) (M : SM) : Option Int32 := (aI M (jpf a0 28) 4).bind fun v1 => some v1
section
variable {p : Program} {l : Launch} {e : Env} {R : Room} {s : State} {m : MethodId} {args : Array Value} {below : List Frame} {meth : Method} {c : Code} {G : JG} {D : Nat} {Q : State → Prop}
set_option maxHeartbeats 4000000 in
set_option maxRecDepth 20000 in
theorem K_Mo_deskMany (C : jCx p R s m args meth c G jb_Mo_deskMany 1 D "SluicePitModel") (F : jF G = false) (hD : 1 ≤ D) (a0 : Nat) (hp0 : jkd a0 12) (M : SM) (X : Int32 → Prop) (hR : ∀ v, X v → ∀ (pc : Nat) (ls : List (Option Value)), decode jb_Mo_deskMany pc = .ok (.ireturn, 1) → narrow FieldType.int (.int v) = .int v → Wk p l e R s m args below meth c G 1 Q 0 0 jN0 (jce G M) pc ls [.int v]) : J X (f_Mo_deskMany a0 M) (Wk p l e R s m args below meth c G 1 Q 0 0 jN0 (jce G M) 0 [some (.ref a0)] []) := by
  unfold f_Mo_deskMany
  refine J_mono (w_aload_n C (jd jdt_Mo_deskMany 0 rfl) rfl) ?_
  refine J_mono (jg_Mo_69 C hp0 (jd jdt_Mo_deskMany 1 rfl)) ?_
  refine J_mono (w_iconst_4 C (jd jdt_Mo_deskMany 2 rfl)) ?_
  refine J_bind (fun v1 hv1 => ?_)
  refine J_mono (w_iald C (jkf_12_28 hp0) hv1 (jd jdt_Mo_deskMany 3 rfl)) ?_
  exact J_some (fun hx => hR v1 hx _ _ (jd jdt_Mo_deskMany 4 rfl) rfl)
end
theorem C_Mo_deskMany (l : Launch) (G : JG) (F : jF G = false) (a0 : Nat) (hp0 : jkd a0 12) (M : SM) {q : Int32} (hf : f_Mo_deskMany a0 M = some q) : jMet l jy_Mo_deskMany jb_Mo_deskMany 1 (some FieldType.int) 1 0 0 G [.ref a0] jN0 (jce G M) (some (.int q)) jN0 (jce G M) :=
  j_met jo_Mo_deskMany (by decide) (Nat.le_of_ble_eq_true rfl) (fun p e s m args below meth c C hr hm => K_Mo_deskMany C F (Nat.le_refl _) a0 hp0 M (fun t => t = q) (fun v hX pc ls hd hn => by cases hX; exact w_iret C hr hn hd) _ hf rfl)
def f_Mo_barsOf (a0 : Nat) (a1 : Int32) (M : SM) : Option Int32 := (aI M (jpf a0 36) (488 + (61 * a1))).bind fun v1 => some v1
section
variable {p : Program} {l : Launch} {e : Env} {R : Room} {s : State} {m : MethodId} {args : Array Value} {below : List Frame} {meth : Method} {c : Code} {G : JG} {D : Nat} {Q : State → Prop}
set_option maxHeartbeats 4000000 in
set_option maxRecDepth 20000 in
theorem K_Mo_barsOf (C : jCx p R s m args meth c G jb_Mo_barsOf 2 D "SluicePitModel") (F : jF G = false) (hD : 1 ≤ D) (a0 : Nat) (a1 : Int32) (hp0 : jkd a0 12) (M : SM) (X : Int32 → Prop) (hR : ∀ v, X v → ∀ (pc : Nat) (ls : List (Option Value)), decode jb_Mo_barsOf pc = .ok (.ireturn, 1) → narrow FieldType.int (.int v) = .int v → Wk p l e R s m args below meth c G 2 Q 0 0 jN0 (jce G M) pc ls [.int v]) : J X (f_Mo_barsOf a0 a1 M) (Wk p l e R s m args below meth c G 2 Q 0 0 jN0 (jce G M) 0 [some (.ref a0), some (.int a1)] []) := by
  unfold f_Mo_barsOf
  refine J_mono (w_aload_n C (jd jdt_Mo_barsOf 0 rfl) rfl) ?_
  refine J_mono (jg_Mo_88 C hp0 (jd jdt_Mo_barsOf 1 rfl)) ?_
  refine J_mono (w_sipush_488 C (jd jdt_Mo_barsOf 2 rfl)) ?_
  refine J_mono (w_bipush_61 C (jd jdt_Mo_barsOf 3 rfl)) ?_
  refine J_mono (w_iload_n C (jd jdt_Mo_barsOf 4 rfl) rfl) ?_
  refine J_mono (w_imul C (jd jdt_Mo_barsOf 5 rfl)) ?_
  refine J_mono (w_iadd C (jd jdt_Mo_barsOf 6 rfl)) ?_
  refine J_bind (fun v1 hv1 => ?_)
  refine J_mono (w_iald C (jkf_12_36 hp0) hv1 (jd jdt_Mo_barsOf 7 rfl)) ?_
  exact J_some (fun hx => hR v1 hx _ _ (jd jdt_Mo_barsOf 8 rfl) rfl)
end
theorem C_Mo_barsOf (l : Launch) (G : JG) (F : jF G = false) (a0 : Nat) (a1 : Int32) (hp0 : jkd a0 12) (M : SM) {q : Int32} (hf : f_Mo_barsOf a0 a1 M = some q) : jMet l jy_Mo_barsOf jb_Mo_barsOf 2 (some FieldType.int) 1 0 0 G [.ref a0, .int a1] jN0 (jce G M) (some (.int q)) jN0 (jce G M) :=
  j_met jo_Mo_barsOf (by decide) (Nat.le_of_ble_eq_true rfl) (fun p e s m args below meth c C hr hm => K_Mo_barsOf C F (Nat.le_refl _) a0 a1 hp0 M (fun t => t = q) (fun v hX pc ls hd hn => by cases hX; exact w_iret C hr hn hd) _ hf rfl)
def f_Mo_plainly (a0 : Nat) (a1 : Int32) (a2 : Int32) (M : SM) : Option Int32 := (f_Mo_barsOf a0 a1 M).bind fun q1 => if q1 < a2 then (some 2) else ((aI M (jpf a0 36) ((488 + (61 * a1)) + a2)).bind fun v3 => some v3)
section
variable {p : Program} {l : Launch} {e : Env} {R : Room} {s : State} {m : MethodId} {args : Array Value} {below : List Frame} {meth : Method} {c : Code} {G : JG} {D : Nat} {Q : State → Prop}
set_option maxHeartbeats 4000000 in
set_option maxRecDepth 20000 in
theorem K_Mo_plainly (C : jCx p R s m args meth c G jb_Mo_plainly 3 D "SluicePitModel") (F : jF G = false) (hD : 2 ≤ D) (a0 : Nat) (a1 : Int32) (a2 : Int32) (hp0 : jkd a0 12) (M : SM) (X : Int32 → Prop) (hR : ∀ v, X v → ∀ (pc : Nat) (ls : List (Option Value)), decode jb_Mo_plainly pc = .ok (.ireturn, 1) → narrow FieldType.int (.int v) = .int v → Wk p l e R s m args below meth c G 3 Q 0 0 jN0 (jce G M) pc ls [.int v]) : J X (f_Mo_plainly a0 a1 a2 M) (Wk p l e R s m args below meth c G 3 Q 0 0 jN0 (jce G M) 0 [some (.ref a0), some (.int a1), some (.int a2)] []) := by
  unfold f_Mo_plainly
  refine J_mono (w_iload_n C (jd jdt_Mo_plainly 0 rfl) rfl) ?_
  refine J_mono (w_aload_n C (jd jdt_Mo_plainly 1 rfl) rfl) ?_
  refine J_mono (w_iload_n C (jd jdt_Mo_plainly 2 rfl) rfl) ?_
  refine J_bind (fun q1 hq1 => ?_)
  refine J_mono (jc_Mo_383 C hp0 (C_Mo_barsOf l G F a0 a1 hp0 M hq1) rfl (Nat.le_trans (Nat.le_of_ble_eq_true rfl : 1 + 1 ≤ 2) hD) (jd jdt_Mo_plainly 3 rfl)) ?_
  refine J_br (w_icmp_le C (jd jdt_Mo_plainly 4 rfl) rfl) (fun h2 => J_pos h2 ?_) (fun h2 => J_neg h2 ?_)
  · refine J_mono (w_iconst_2 C (jd jdt_Mo_plainly 5 rfl)) ?_
    refine J_mono (w_goto C (jd jdt_Mo_plainly 6 rfl) rfl) ?_
    exact J_some (fun hx => hR 2 hx _ _ (jd jdt_Mo_plainly 17 rfl) rfl)
  · refine J_mono (w_aload_n C (jd jdt_Mo_plainly 7 rfl) rfl) ?_
    refine J_mono (jg_Mo_88 C hp0 (jd jdt_Mo_plainly 8 rfl)) ?_
    refine J_mono (w_sipush_488 C (jd jdt_Mo_plainly 9 rfl)) ?_
    refine J_mono (w_bipush_61 C (jd jdt_Mo_plainly 10 rfl)) ?_
    refine J_mono (w_iload_n C (jd jdt_Mo_plainly 11 rfl) rfl) ?_
    refine J_mono (w_imul C (jd jdt_Mo_plainly 12 rfl)) ?_
    refine J_mono (w_iadd C (jd jdt_Mo_plainly 13 rfl)) ?_
    refine J_mono (w_iload_n C (jd jdt_Mo_plainly 14 rfl) rfl) ?_
    refine J_mono (w_iadd C (jd jdt_Mo_plainly 15 rfl)) ?_
    refine J_bind (fun v3 hv3 => ?_)
    refine J_mono (w_iald C (jkf_12_36 hp0) hv3 (jd jdt_Mo_plainly 16 rfl)) ?_
    exact J_some (fun hx => hR v3 hx _ _ (jd jdt_Mo_plainly 17 rfl) rfl)
end
theorem C_Mo_plainly (l : Launch) (G : JG) (F : jF G = false) (a0 : Nat) (a1 : Int32) (a2 : Int32) (hp0 : jkd a0 12) (M : SM) {q : Int32} (hf : f_Mo_plainly a0 a1 a2 M = some q) : jMet l jy_Mo_plainly jb_Mo_plainly 3 (some FieldType.int) 2 0 0 G [.ref a0, .int a1, .int a2] jN0 (jce G M) (some (.int q)) jN0 (jce G M) :=
  j_met jo_Mo_plainly (by decide) (Nat.le_of_ble_eq_true rfl) (fun p e s m args below meth c C hr hm => K_Mo_plainly C F (Nat.le_refl _) a0 a1 a2 hp0 M (fun t => t = q) (fun v hX pc ls hd hn => by cases hX; exact w_iret C hr hn hd) _ hf rfl)
def f_Mo_does (a0 : Nat) (a1 : Int32) (a2 : Int32) (M : SM) : Option Int32 := if (((M.1 a0 47) >>> (a1 &&& 31)) &&& 1) = 1 then (some 2) else ((if (M.1 a0 50) = (-1) then (some a2) else (if (M.1 a0 50) < a2 then ((if ((M.1 a0 50) + (M.1 a0 51)) < a2 then (some (a2 - (M.1 a0 51))) else (some (a2 - (M.1 a0 50))) : Option (Int32)).bind fun q5 => some q5) else (some a2)) : Option (Int32)).bind fun q2 => (if a1 = (M.1 a0 48) then (if a2 < (M.1 a0 49) then (some q2) else (some (a2 + 1))) else (some q2) : Option (Int32)).bind fun q7 => (f_Mo_plainly a0 a1 q7 M).bind fun q10 => some q10)
section
variable {p : Program} {l : Launch} {e : Env} {R : Room} {s : State} {m : MethodId} {args : Array Value} {below : List Frame} {meth : Method} {c : Code} {G : JG} {D : Nat} {Q : State → Prop}
set_option maxHeartbeats 4000000 in
set_option maxRecDepth 20000 in
theorem K_Mo_does (C : jCx p R s m args meth c G jb_Mo_does 4 D "SluicePitModel") (F : jF G = false) (hD : 3 ≤ D) (a0 : Nat) (a1 : Int32) (a2 : Int32) (hp0 : jkd a0 12) (M : SM) (X : Int32 → Prop) (hR : ∀ v, X v → ∀ (pc : Nat) (ls : List (Option Value)), decode jb_Mo_does pc = .ok (.ireturn, 1) → narrow FieldType.int (.int v) = .int v → Wk p l e R s m args below meth c G 4 Q 0 0 jN0 (jce G M) pc ls [.int v]) : J X (f_Mo_does a0 a1 a2 M) (Wk p l e R s m args below meth c G 4 Q 0 0 jN0 (jce G M) 0 [some (.ref a0), some (.int a1), some (.int a2), none] []) := by
  unfold f_Mo_does
  refine J_mono (w_aload_n C (jd jdt_Mo_does 0 rfl) rfl) ?_
  refine J_mono (jg_Mo_386 C hp0 (jd jdt_Mo_does 1 rfl)) ?_
  refine J_mono (w_iload_n C (jd jdt_Mo_does 2 rfl) rfl) ?_
  refine J_mono (w_ishr C (jd jdt_Mo_does 3 rfl)) ?_
  refine J_mono (w_iconst_1 C (jd jdt_Mo_does 4 rfl)) ?_
  refine J_mono (w_iand C (jd jdt_Mo_does 5 rfl)) ?_
  refine J_mono (w_iconst_1 C (jd jdt_Mo_does 6 rfl)) ?_
  refine J_br (w_icmp_ne C (jd jdt_Mo_does 7 rfl) rfl) (fun h1 => J_pos h1 ?_) (fun h1 => J_neg h1 ?_)
  · refine J_mono (w_iconst_2 C (jd jdt_Mo_does 8 rfl)) ?_
    exact J_some (fun hx => hR 2 hx _ _ (jd jdt_Mo_does 9 rfl) rfl)
  · refine J_mono (w_iload_n C (jd jdt_Mo_does 10 rfl) rfl) ?_
    refine J_mono (w_istore_n (ls' := [some (.ref a0), some (.int a1), some (.int a2), some (.int a2)]) C (jd jdt_Mo_does 11 rfl) (by decide) rfl rfl) ?_
    refine J_mono (w_aload_n C (jd jdt_Mo_does 12 rfl) rfl) ?_
    refine J_mono (jg_Mo_115 C hp0 (jd jdt_Mo_does 13 rfl)) ?_
    refine J_mono (w_iconst_m1 C (jd jdt_Mo_does 14 rfl)) ?_
    refine J_seq (fun (q2 : Int32) => Wk p l e R s m args below meth c G 4 Q 0 0 jN0 (jce G M) 61 [some (.ref a0), some (.int a1), some (.int a2), some (.int q2)] []) ?_ (fun q2 hq2 => ?_)
    · refine J_br (w_icmp_eq C (jd jdt_Mo_does 15 rfl) rfl) (fun h3 => J_pos h3 ?_) (fun h3 => J_neg h3 ?_)
      · exact J_some (fun hx => Wk_sb hx ⟨rfl, rfl, rfl, rfl, trivial⟩)
      · refine J_mono (w_iload_n C (jd jdt_Mo_does 16 rfl) rfl) ?_
        refine J_mono (w_aload_n C (jd jdt_Mo_does 17 rfl) rfl) ?_
        refine J_mono (jg_Mo_115 C hp0 (jd jdt_Mo_does 18 rfl)) ?_
        refine J_br (w_icmp_le C (jd jdt_Mo_does 19 rfl) rfl) (fun h4 => J_pos h4 ?_) (fun h4 => J_neg h4 ?_)
        · refine J_mono (w_iload_n C (jd jdt_Mo_does 20 rfl) rfl) ?_
          refine J_mono (w_aload_n C (jd jdt_Mo_does 21 rfl) rfl) ?_
          refine J_mono (jg_Mo_115 C hp0 (jd jdt_Mo_does 22 rfl)) ?_
          refine J_mono (w_aload_n C (jd jdt_Mo_does 23 rfl) rfl) ?_
          refine J_mono (jg_Mo_389 C hp0 (jd jdt_Mo_does 24 rfl)) ?_
          refine J_mono (w_iadd C (jd jdt_Mo_does 25 rfl)) ?_
          refine J_seq (fun (q5 : Int32) => Wk p l e R s m args below meth c G 4 Q 0 0 jN0 (jce G M) 60 [some (.ref a0), some (.int a1), some (.int a2), none] [.int q5]) ?_ (fun q5 hq5 => ?_)
          · refine J_br (w_icmp_le C (jd jdt_Mo_does 26 rfl) rfl) (fun h6 => J_pos h6 ?_) (fun h6 => J_neg h6 ?_)
            · refine J_mono (w_iload_n C (jd jdt_Mo_does 27 rfl) rfl) ?_
              refine J_mono (w_aload_n C (jd jdt_Mo_does 28 rfl) rfl) ?_
              refine J_mono (jg_Mo_389 C hp0 (jd jdt_Mo_does 29 rfl)) ?_
              refine J_mono (w_isub C (jd jdt_Mo_does 30 rfl)) ?_
              refine J_mono (w_goto C (jd jdt_Mo_does 31 rfl) rfl) ?_
              exact J_some (fun hx => Wk_sb hx ⟨rfl, rfl, rfl, trivial⟩)
            · refine J_mono (w_iload_n C (jd jdt_Mo_does 32 rfl) rfl) ?_
              refine J_mono (w_aload_n C (jd jdt_Mo_does 33 rfl) rfl) ?_
              refine J_mono (jg_Mo_115 C hp0 (jd jdt_Mo_does 34 rfl)) ?_
              refine J_mono (w_isub C (jd jdt_Mo_does 35 rfl)) ?_
              exact J_some (fun hx => Wk_sb hx ⟨rfl, rfl, rfl, trivial⟩)
          · refine J_mono (w_istore_n (ls' := [some (.ref a0), some (.int a1), some (.int a2), some (.int q5)]) C (jd jdt_Mo_does 36 rfl) (by decide) rfl rfl) ?_
            exact J_some (fun hx => Wk_sb hx ⟨rfl, rfl, rfl, rfl, trivial⟩)
        · exact J_some (fun hx => Wk_sb hx ⟨rfl, rfl, rfl, rfl, trivial⟩)
    · refine J_mono (w_iload_n C (jd jdt_Mo_does 37 rfl) rfl) ?_
      refine J_mono (w_aload_n C (jd jdt_Mo_does 38 rfl) rfl) ?_
      refine J_mono (jg_Mo_112 C hp0 (jd jdt_Mo_does 39 rfl)) ?_
      refine J_seq (fun (q7 : Int32) => Wk p l e R s m args below meth c G 4 Q 0 0 jN0 (jce G M) 81 [some (.ref a0), some (.int a1), none, some (.int q7)] []) ?_ (fun q7 hq7 => ?_)
      · refine J_br (w_icmp_ne C (jd jdt_Mo_does 40 rfl) rfl) (fun h8 => J_pos h8 ?_) (fun h8 => J_neg h8 ?_)
        · refine J_mono (w_iload_n C (jd jdt_Mo_does 41 rfl) rfl) ?_
          refine J_mono (w_aload_n C (jd jdt_Mo_does 42 rfl) rfl) ?_
          refine J_mono (jg_Mo_392 C hp0 (jd jdt_Mo_does 43 rfl)) ?_
          refine J_br (w_icmp_lt C (jd jdt_Mo_does 44 rfl) rfl) (fun h9 => J_pos h9 ?_) (fun h9 => J_neg h9 ?_)
          · exact J_some (fun hx => Wk_sb hx ⟨rfl, rfl, rfl, trivial⟩)
          · refine J_mono (w_iload_n C (jd jdt_Mo_does 45 rfl) rfl) ?_
            refine J_mono (w_iconst_1 C (jd jdt_Mo_does 46 rfl)) ?_
            refine J_mono (w_iadd C (jd jdt_Mo_does 47 rfl)) ?_
            refine J_mono (w_istore_n (ls' := [some (.ref a0), some (.int a1), some (.int a2), some (.int (a2 + 1))]) C (jd jdt_Mo_does 48 rfl) (by decide) rfl rfl) ?_
            exact J_some (fun hx => Wk_sb hx ⟨rfl, rfl, rfl, trivial⟩)
        · exact J_some (fun hx => Wk_sb hx ⟨rfl, rfl, rfl, trivial⟩)
      · refine J_mono (w_aload_n C (jd jdt_Mo_does 49 rfl) rfl) ?_
        refine J_mono (w_iload_n C (jd jdt_Mo_does 50 rfl) rfl) ?_
        refine J_mono (w_iload_n C (jd jdt_Mo_does 51 rfl) rfl) ?_
        refine J_bind (fun q10 hq10 => ?_)
        refine J_mono (jc_Mo_395 C hp0 (C_Mo_plainly l G F a0 a1 q7 hp0 M hq10) rfl (Nat.le_trans (Nat.le_of_ble_eq_true rfl : 2 + 1 ≤ 3) hD) (jd jdt_Mo_does 52 rfl)) ?_
        exact J_some (fun hx => hR q10 hx _ _ (jd jdt_Mo_does 53 rfl) rfl)
end
theorem C_Mo_does (l : Launch) (G : JG) (F : jF G = false) (a0 : Nat) (a1 : Int32) (a2 : Int32) (hp0 : jkd a0 12) (M : SM) {q : Int32} (hf : f_Mo_does a0 a1 a2 M = some q) : jMet l jy_Mo_does jb_Mo_does 4 (some FieldType.int) 3 0 0 G [.ref a0, .int a1, .int a2] jN0 (jce G M) (some (.int q)) jN0 (jce G M) :=
  j_met jo_Mo_does (by decide) (Nat.le_of_ble_eq_true rfl) (fun p e s m args below meth c C hr hm => K_Mo_does C F (Nat.le_refl _) a0 a1 a2 hp0 M (fun t => t = q) (fun v hX pc ls hd hn => by cases hX; exact w_iret C hr hn hd) _ hf rfl)
def f_Mo_flows (a0 : Nat) (a1 : Int32) (M : SM) : Option SM := (aI M (jpf a0 32) (12 + a1)).bind fun v1 => (aI M (jpf a0 52) a1).bind fun v2 => (aI M (jpf a0 32) ((12 + a1) + 1)).bind fun v3 => (aI M (jpf a0 52) (a1 + 1)).bind fun v4 => if 0 < (((v1 + v2) - v3) - v4) then (if (M.1 a0 54) = 0 then ((aI M (jpf a0 52) a1).bind fun v7 => (if v7 < ((((v1 + v2) - v3) - v4) / 2) then ((aI M (jpf a0 52) a1).bind fun v10 => some v10) else (some ((((v1 + v2) - v3) - v4) / 2)) : Option (Int32)).bind fun q8 => (aI M (jpf a0 52) a1).bind fun v11 => (aS M (jpf a0 52) a1 (v11 - q8)).bind fun M12 => (aI M12 (jpf a0 52) (a1 + 1)).bind fun v13 => (aS M12 (jpf a0 52) (a1 + 1) (v13 + q8)).bind fun M14 => some M14) else ((aI M (jpf a0 34) (12 + a1)).bind fun v15 => if v15 = 1 then (some M) else ((aI M (jpf a0 52) a1).bind fun v17 => (if v17 < ((((v1 + v2) - v3) - v4) / 2) then ((aI M (jpf a0 52) a1).bind fun v20 => some v20) else (some ((((v1 + v2) - v3) - v4) / 2)) : Option (Int32)).bind fun q18 => (aI M (jpf a0 52) a1).bind fun v21 => (aS M (jpf a0 52) a1 (v21 - q18)).bind fun M22 => (aI M22 (jpf a0 52) (a1 + 1)).bind fun v23 => (aS M22 (jpf a0 52) (a1 + 1) (v23 + q18)).bind fun M24 => some M24))) else (some M)
section
variable {p : Program} {l : Launch} {e : Env} {R : Room} {s : State} {m : MethodId} {args : Array Value} {below : List Frame} {meth : Method} {c : Code} {G : JG} {D : Nat} {Q : State → Prop}
set_option maxHeartbeats 4000000 in
set_option maxRecDepth 20000 in
theorem K_Mo_flows (C : jCx p R s m args meth c G jb_Mo_flows 4 D "SluicePitModel") (F : jF G = false) (hD : 1 ≤ D) (a0 : Nat) (a1 : Int32) (hp0 : jkd a0 12) (M : SM) (X : SM → Prop) (hR : ∀ M', X M' → ∀ (pc : Nat) (ls : List (Option Value)), decode jb_Mo_flows pc = .ok (.return_, 1) → Wk p l e R s m args below meth c G 4 Q 0 0 jN0 (jce G M') pc ls []) : J X (f_Mo_flows a0 a1 M) (Wk p l e R s m args below meth c G 4 Q 0 0 jN0 (jce G M) 0 [some (.ref a0), some (.int a1), none, none] []) := by
  unfold f_Mo_flows
  refine J_mono (w_aload_n C (jd jdt_Mo_flows 0 rfl) rfl) ?_
  refine J_mono (jg_Mo_76 C hp0 (jd jdt_Mo_flows 1 rfl)) ?_
  refine J_mono (w_bipush_12 C (jd jdt_Mo_flows 2 rfl)) ?_
  refine J_mono (w_iload_n C (jd jdt_Mo_flows 3 rfl) rfl) ?_
  refine J_mono (w_iadd C (jd jdt_Mo_flows 4 rfl)) ?_
  refine J_bind (fun v1 hv1 => ?_)
  refine J_mono (w_iald C (jkf_12_32 hp0) hv1 (jd jdt_Mo_flows 5 rfl)) ?_
  refine J_mono (w_aload_n C (jd jdt_Mo_flows 6 rfl) rfl) ?_
  refine J_mono (jg_Mo_118 C hp0 (jd jdt_Mo_flows 7 rfl)) ?_
  refine J_mono (w_iload_n C (jd jdt_Mo_flows 8 rfl) rfl) ?_
  refine J_bind (fun v2 hv2 => ?_)
  refine J_mono (w_iald C (jkf_12_52 hp0) hv2 (jd jdt_Mo_flows 9 rfl)) ?_
  refine J_mono (w_iadd C (jd jdt_Mo_flows 10 rfl)) ?_
  refine J_mono (w_aload_n C (jd jdt_Mo_flows 11 rfl) rfl) ?_
  refine J_mono (jg_Mo_76 C hp0 (jd jdt_Mo_flows 12 rfl)) ?_
  refine J_mono (w_bipush_12 C (jd jdt_Mo_flows 13 rfl)) ?_
  refine J_mono (w_iload_n C (jd jdt_Mo_flows 14 rfl) rfl) ?_
  refine J_mono (w_iadd C (jd jdt_Mo_flows 15 rfl)) ?_
  refine J_mono (w_iconst_1 C (jd jdt_Mo_flows 16 rfl)) ?_
  refine J_mono (w_iadd C (jd jdt_Mo_flows 17 rfl)) ?_
  refine J_bind (fun v3 hv3 => ?_)
  refine J_mono (w_iald C (jkf_12_32 hp0) hv3 (jd jdt_Mo_flows 18 rfl)) ?_
  refine J_mono (w_isub C (jd jdt_Mo_flows 19 rfl)) ?_
  refine J_mono (w_aload_n C (jd jdt_Mo_flows 20 rfl) rfl) ?_
  refine J_mono (jg_Mo_118 C hp0 (jd jdt_Mo_flows 21 rfl)) ?_
  refine J_mono (w_iload_n C (jd jdt_Mo_flows 22 rfl) rfl) ?_
  refine J_mono (w_iconst_1 C (jd jdt_Mo_flows 23 rfl)) ?_
  refine J_mono (w_iadd C (jd jdt_Mo_flows 24 rfl)) ?_
  refine J_bind (fun v4 hv4 => ?_)
  refine J_mono (w_iald C (jkf_12_52 hp0) hv4 (jd jdt_Mo_flows 25 rfl)) ?_
  refine J_mono (w_isub C (jd jdt_Mo_flows 26 rfl)) ?_
  refine J_mono (w_istore_n (ls' := [some (.ref a0), some (.int a1), some (.int (((v1 + v2) - v3) - v4)), none]) C (jd jdt_Mo_flows 27 rfl) (by decide) rfl rfl) ?_
  refine J_mono (w_iload_n C (jd jdt_Mo_flows 28 rfl) rfl) ?_
  refine J_br (w_if_le (y := 0) C (jd jdt_Mo_flows 29 rfl) rfl) (fun h5 => J_pos h5 ?_) (fun h5 => J_neg h5 ?_)
  · refine J_mono (w_aload_n C (jd jdt_Mo_flows 30 rfl) rfl) ?_
    refine J_mono (jg_Mo_398 C hp0 (jd jdt_Mo_flows 31 rfl)) ?_
    refine J_br (w_if_eq (y := 0) C (jd jdt_Mo_flows 32 rfl) rfl) (fun h6 => J_pos h6 ?_) (fun h6 => J_neg h6 ?_)
    · refine J_mono (w_iload_n C (jd jdt_Mo_flows 42 rfl) rfl) ?_
      refine J_mono (w_iconst_2 C (jd jdt_Mo_flows 43 rfl)) ?_
      refine J_mono (w_idiv C (jd jdt_Mo_flows 44 rfl) (by decide)) ?_
      refine J_mono (w_aload_n C (jd jdt_Mo_flows 45 rfl) rfl) ?_
      refine J_mono (jg_Mo_118 C hp0 (jd jdt_Mo_flows 46 rfl)) ?_
      refine J_mono (w_iload_n C (jd jdt_Mo_flows 47 rfl) rfl) ?_
      refine J_bind (fun v7 hv7 => ?_)
      refine J_mono (w_iald C (jkf_12_52 hp0) hv7 (jd jdt_Mo_flows 48 rfl)) ?_
      refine J_seq (fun (q8 : Int32) => Wk p l e R s m args below meth c G 4 Q 0 0 jN0 (jce G M) 87 [some (.ref a0), some (.int a1), none, none] [.int q8]) ?_ (fun q8 hq8 => ?_)
      · refine J_br (w_icmp_le C (jd jdt_Mo_flows 49 rfl) rfl) (fun h9 => J_pos h9 ?_) (fun h9 => J_neg h9 ?_)
        · refine J_mono (w_aload_n C (jd jdt_Mo_flows 50 rfl) rfl) ?_
          refine J_mono (jg_Mo_118 C hp0 (jd jdt_Mo_flows 51 rfl)) ?_
          refine J_mono (w_iload_n C (jd jdt_Mo_flows 52 rfl) rfl) ?_
          refine J_bind (fun v10 hv10 => ?_)
          refine J_mono (w_iald C (jkf_12_52 hp0) hv10 (jd jdt_Mo_flows 53 rfl)) ?_
          refine J_mono (w_goto C (jd jdt_Mo_flows 54 rfl) rfl) ?_
          exact J_some (fun hx => Wk_sb hx ⟨rfl, rfl, trivial⟩)
        · refine J_mono (w_iload_n C (jd jdt_Mo_flows 55 rfl) rfl) ?_
          refine J_mono (w_iconst_2 C (jd jdt_Mo_flows 56 rfl)) ?_
          refine J_mono (w_idiv C (jd jdt_Mo_flows 57 rfl) (by decide)) ?_
          exact J_some (fun hx => Wk_sb hx ⟨rfl, rfl, trivial⟩)
      · refine J_mono (w_istore_n (ls' := [some (.ref a0), some (.int a1), none, some (.int q8)]) C (jd jdt_Mo_flows 58 rfl) (by decide) rfl rfl) ?_
        refine J_mono (w_aload_n C (jd jdt_Mo_flows 59 rfl) rfl) ?_
        refine J_mono (jg_Mo_118 C hp0 (jd jdt_Mo_flows 60 rfl)) ?_
        refine J_mono (w_iload_n C (jd jdt_Mo_flows 61 rfl) rfl) ?_
        refine J_mono (w_dup2 C (jd jdt_Mo_flows 62 rfl)) ?_
        refine J_bind (fun v11 hv11 => ?_)
        refine J_mono (w_iald C (jkf_12_52 hp0) hv11 (jd jdt_Mo_flows 63 rfl)) ?_
        refine J_mono (w_iload_n C (jd jdt_Mo_flows 64 rfl) rfl) ?_
        refine J_mono (w_isub C (jd jdt_Mo_flows 65 rfl)) ?_
        refine J_bind (fun M12 hM12 => ?_)
        refine J_mono (w_iast C F (jkf_12_52 hp0) hM12 (jd jdt_Mo_flows 66 rfl)) ?_
        refine J_mono (w_aload_n C (jd jdt_Mo_flows 67 rfl) rfl) ?_
        refine J_mono (jg_Mo_118 C hp0 (jd jdt_Mo_flows 68 rfl)) ?_
        refine J_mono (w_iload_n C (jd jdt_Mo_flows 69 rfl) rfl) ?_
        refine J_mono (w_iconst_1 C (jd jdt_Mo_flows 70 rfl)) ?_
        refine J_mono (w_iadd C (jd jdt_Mo_flows 71 rfl)) ?_
        refine J_mono (w_dup2 C (jd jdt_Mo_flows 72 rfl)) ?_
        refine J_bind (fun v13 hv13 => ?_)
        refine J_mono (w_iald C (jkf_12_52 hp0) hv13 (jd jdt_Mo_flows 73 rfl)) ?_
        refine J_mono (w_iload_n C (jd jdt_Mo_flows 74 rfl) rfl) ?_
        refine J_mono (w_iadd C (jd jdt_Mo_flows 75 rfl)) ?_
        refine J_bind (fun M14 hM14 => ?_)
        refine J_mono (w_iast C F (jkf_12_52 hp0) hM14 (jd jdt_Mo_flows 76 rfl)) ?_
        exact J_some (fun hx => hR M14 hx _ _ (jd jdt_Mo_flows 77 rfl))
    · refine J_mono (w_aload_n C (jd jdt_Mo_flows 33 rfl) rfl) ?_
      refine J_mono (jg_Mo_82 C hp0 (jd jdt_Mo_flows 34 rfl)) ?_
      refine J_mono (w_bipush_12 C (jd jdt_Mo_flows 35 rfl)) ?_
      refine J_mono (w_iload_n C (jd jdt_Mo_flows 36 rfl) rfl) ?_
      refine J_mono (w_iadd C (jd jdt_Mo_flows 37 rfl)) ?_
      refine J_bind (fun v15 hv15 => ?_)
      refine J_mono (w_iald C (jkf_12_34 hp0) hv15 (jd jdt_Mo_flows 38 rfl)) ?_
      refine J_mono (w_iconst_1 C (jd jdt_Mo_flows 39 rfl)) ?_
      refine J_br (w_icmp_ne C (jd jdt_Mo_flows 40 rfl) rfl) (fun h16 => J_pos h16 ?_) (fun h16 => J_neg h16 ?_)
      · exact J_some (fun hx => hR M hx _ _ (jd jdt_Mo_flows 41 rfl))
      · refine J_mono (w_iload_n C (jd jdt_Mo_flows 42 rfl) rfl) ?_
        refine J_mono (w_iconst_2 C (jd jdt_Mo_flows 43 rfl)) ?_
        refine J_mono (w_idiv C (jd jdt_Mo_flows 44 rfl) (by decide)) ?_
        refine J_mono (w_aload_n C (jd jdt_Mo_flows 45 rfl) rfl) ?_
        refine J_mono (jg_Mo_118 C hp0 (jd jdt_Mo_flows 46 rfl)) ?_
        refine J_mono (w_iload_n C (jd jdt_Mo_flows 47 rfl) rfl) ?_
        refine J_bind (fun v17 hv17 => ?_)
        refine J_mono (w_iald C (jkf_12_52 hp0) hv17 (jd jdt_Mo_flows 48 rfl)) ?_
        refine J_seq (fun (q18 : Int32) => Wk p l e R s m args below meth c G 4 Q 0 0 jN0 (jce G M) 87 [some (.ref a0), some (.int a1), none, none] [.int q18]) ?_ (fun q18 hq18 => ?_)
        · refine J_br (w_icmp_le C (jd jdt_Mo_flows 49 rfl) rfl) (fun h19 => J_pos h19 ?_) (fun h19 => J_neg h19 ?_)
          · refine J_mono (w_aload_n C (jd jdt_Mo_flows 50 rfl) rfl) ?_
            refine J_mono (jg_Mo_118 C hp0 (jd jdt_Mo_flows 51 rfl)) ?_
            refine J_mono (w_iload_n C (jd jdt_Mo_flows 52 rfl) rfl) ?_
            refine J_bind (fun v20 hv20 => ?_)
            refine J_mono (w_iald C (jkf_12_52 hp0) hv20 (jd jdt_Mo_flows 53 rfl)) ?_
            refine J_mono (w_goto C (jd jdt_Mo_flows 54 rfl) rfl) ?_
            exact J_some (fun hx => Wk_sb hx ⟨rfl, rfl, trivial⟩)
          · refine J_mono (w_iload_n C (jd jdt_Mo_flows 55 rfl) rfl) ?_
            refine J_mono (w_iconst_2 C (jd jdt_Mo_flows 56 rfl)) ?_
            refine J_mono (w_idiv C (jd jdt_Mo_flows 57 rfl) (by decide)) ?_
            exact J_some (fun hx => Wk_sb hx ⟨rfl, rfl, trivial⟩)
        · refine J_mono (w_istore_n (ls' := [some (.ref a0), some (.int a1), none, some (.int q18)]) C (jd jdt_Mo_flows 58 rfl) (by decide) rfl rfl) ?_
          refine J_mono (w_aload_n C (jd jdt_Mo_flows 59 rfl) rfl) ?_
          refine J_mono (jg_Mo_118 C hp0 (jd jdt_Mo_flows 60 rfl)) ?_
          refine J_mono (w_iload_n C (jd jdt_Mo_flows 61 rfl) rfl) ?_
          refine J_mono (w_dup2 C (jd jdt_Mo_flows 62 rfl)) ?_
          refine J_bind (fun v21 hv21 => ?_)
          refine J_mono (w_iald C (jkf_12_52 hp0) hv21 (jd jdt_Mo_flows 63 rfl)) ?_
          refine J_mono (w_iload_n C (jd jdt_Mo_flows 64 rfl) rfl) ?_
          refine J_mono (w_isub C (jd jdt_Mo_flows 65 rfl)) ?_
          refine J_bind (fun M22 hM22 => ?_)
          refine J_mono (w_iast C F (jkf_12_52 hp0) hM22 (jd jdt_Mo_flows 66 rfl)) ?_
          refine J_mono (w_aload_n C (jd jdt_Mo_flows 67 rfl) rfl) ?_
          refine J_mono (jg_Mo_118 C hp0 (jd jdt_Mo_flows 68 rfl)) ?_
          refine J_mono (w_iload_n C (jd jdt_Mo_flows 69 rfl) rfl) ?_
          refine J_mono (w_iconst_1 C (jd jdt_Mo_flows 70 rfl)) ?_
          refine J_mono (w_iadd C (jd jdt_Mo_flows 71 rfl)) ?_
          refine J_mono (w_dup2 C (jd jdt_Mo_flows 72 rfl)) ?_
          refine J_bind (fun v23 hv23 => ?_)
          refine J_mono (w_iald C (jkf_12_52 hp0) hv23 (jd jdt_Mo_flows 73 rfl)) ?_
          refine J_mono (w_iload_n C (jd jdt_Mo_flows 74 rfl) rfl) ?_
          refine J_mono (w_iadd C (jd jdt_Mo_flows 75 rfl)) ?_
          refine J_bind (fun M24 hM24 => ?_)
          refine J_mono (w_iast C F (jkf_12_52 hp0) hM24 (jd jdt_Mo_flows 76 rfl)) ?_
          exact J_some (fun hx => hR M24 hx _ _ (jd jdt_Mo_flows 77 rfl))
  · exact J_some (fun hx => hR M hx _ _ (jd jdt_Mo_flows 41 rfl))
end
theorem C_Mo_flows (l : Launch) (G : JG) (F : jF G = false) (a0 : Nat) (a1 : Int32) (hp0 : jkd a0 12) (M : SM) {q : SM} (hf : f_Mo_flows a0 a1 M = some q) : jMet l jy_Mo_flows jb_Mo_flows 4 none 1 0 0 G [.ref a0, .int a1] jN0 (jce G M) none jN0 (jce G q) :=
  j_met jo_Mo_flows (by decide) (Nat.le_of_ble_eq_true rfl) (fun p e s m args below meth c C hr hm => K_Mo_flows C F (Nat.le_refl _) a0 a1 hp0 M (fun t => t = q) (fun M' hX pc ls hd => by cases hX; exact w_vret C hr hd) _ hf rfl)
def f_Mo_drinks (a0 : Nat) (a1 : Int32) (M : SM) : Option SM := (aI M (jpf a0 39) (8 + (2 * a1))).bind fun v1 => (aI M (jpf a0 39) ((8 + (2 * a1)) + 1)).bind fun v2 => (aI M (jpf a0 52) v1).bind fun v3 => (if v3 < v2 then ((aI M (jpf a0 52) v1).bind fun v6 => some v6) else (some v2) : Option (Int32)).bind fun q4 => (aI M (jpf a0 52) v1).bind fun v7 => (aS M (jpf a0 52) v1 (v7 - q4)).bind fun M8 => some (sI M8 a0 57 ((M8.1 a0 57) + q4))
section
variable {p : Program} {l : Launch} {e : Env} {R : Room} {s : State} {m : MethodId} {args : Array Value} {below : List Frame} {meth : Method} {c : Code} {G : JG} {D : Nat} {Q : State → Prop}
set_option maxHeartbeats 4000000 in
set_option maxRecDepth 20000 in
theorem K_Mo_drinks (C : jCx p R s m args meth c G jb_Mo_drinks 4 D "SluicePitModel") (F : jF G = false) (hD : 1 ≤ D) (a0 : Nat) (a1 : Int32) (hp0 : jkd a0 12) (M : SM) (X : SM → Prop) (hR : ∀ M', X M' → ∀ (pc : Nat) (ls : List (Option Value)), decode jb_Mo_drinks pc = .ok (.return_, 1) → Wk p l e R s m args below meth c G 4 Q 0 0 jN0 (jce G M') pc ls []) : J X (f_Mo_drinks a0 a1 M) (Wk p l e R s m args below meth c G 4 Q 0 0 jN0 (jce G M) 0 [some (.ref a0), some (.int a1), none, none] []) := by
  unfold f_Mo_drinks
  refine J_mono (w_aload_n C (jd jdt_Mo_drinks 0 rfl) rfl) ?_
  refine J_mono (jg_Mo_97 C hp0 (jd jdt_Mo_drinks 1 rfl)) ?_
  refine J_mono (w_bipush_8 C (jd jdt_Mo_drinks 2 rfl)) ?_
  refine J_mono (w_iconst_2 C (jd jdt_Mo_drinks 3 rfl)) ?_
  refine J_mono (w_iload_n C (jd jdt_Mo_drinks 4 rfl) rfl) ?_
  refine J_mono (w_imul C (jd jdt_Mo_drinks 5 rfl)) ?_
  refine J_mono (w_iadd C (jd jdt_Mo_drinks 6 rfl)) ?_
  refine J_bind (fun v1 hv1 => ?_)
  refine J_mono (w_iald C (jkf_12_39 hp0) hv1 (jd jdt_Mo_drinks 7 rfl)) ?_
  refine J_mono (w_istore_n (ls' := [some (.ref a0), some (.int a1), some (.int v1), none]) C (jd jdt_Mo_drinks 8 rfl) (by decide) rfl rfl) ?_
  refine J_mono (w_aload_n C (jd jdt_Mo_drinks 9 rfl) rfl) ?_
  refine J_mono (jg_Mo_97 C hp0 (jd jdt_Mo_drinks 10 rfl)) ?_
  refine J_mono (w_bipush_8 C (jd jdt_Mo_drinks 11 rfl)) ?_
  refine J_mono (w_iconst_2 C (jd jdt_Mo_drinks 12 rfl)) ?_
  refine J_mono (w_iload_n C (jd jdt_Mo_drinks 13 rfl) rfl) ?_
  refine J_mono (w_imul C (jd jdt_Mo_drinks 14 rfl)) ?_
  refine J_mono (w_iadd C (jd jdt_Mo_drinks 15 rfl)) ?_
  refine J_mono (w_iconst_1 C (jd jdt_Mo_drinks 16 rfl)) ?_
  refine J_mono (w_iadd C (jd jdt_Mo_drinks 17 rfl)) ?_
  refine J_bind (fun v2 hv2 => ?_)
  refine J_mono (w_iald C (jkf_12_39 hp0) hv2 (jd jdt_Mo_drinks 18 rfl)) ?_
  refine J_mono (w_istore_n (ls' := [some (.ref a0), some (.int a1), some (.int v1), some (.int v2)]) C (jd jdt_Mo_drinks 19 rfl) (by decide) rfl rfl) ?_
  refine J_mono (w_iload_n C (jd jdt_Mo_drinks 20 rfl) rfl) ?_
  refine J_mono (w_aload_n C (jd jdt_Mo_drinks 21 rfl) rfl) ?_
  refine J_mono (jg_Mo_118 C hp0 (jd jdt_Mo_drinks 22 rfl)) ?_
  refine J_mono (w_iload_n C (jd jdt_Mo_drinks 23 rfl) rfl) ?_
  refine J_bind (fun v3 hv3 => ?_)
  refine J_mono (w_iald C (jkf_12_52 hp0) hv3 (jd jdt_Mo_drinks 24 rfl)) ?_
  refine J_seq (fun (q4 : Int32) => Wk p l e R s m args below meth c G 4 Q 0 0 jN0 (jce G M) 43 [some (.ref a0), none, some (.int v1), some (.int q4)] []) ?_ (fun q4 hq4 => ?_)
  · refine J_br (w_icmp_le C (jd jdt_Mo_drinks 25 rfl) rfl) (fun h5 => J_pos h5 ?_) (fun h5 => J_neg h5 ?_)
    · refine J_mono (w_aload_n C (jd jdt_Mo_drinks 26 rfl) rfl) ?_
      refine J_mono (jg_Mo_118 C hp0 (jd jdt_Mo_drinks 27 rfl)) ?_
      refine J_mono (w_iload_n C (jd jdt_Mo_drinks 28 rfl) rfl) ?_
      refine J_bind (fun v6 hv6 => ?_)
      refine J_mono (w_iald C (jkf_12_52 hp0) hv6 (jd jdt_Mo_drinks 29 rfl)) ?_
      refine J_mono (w_istore_n (ls' := [some (.ref a0), some (.int a1), some (.int v1), some (.int v6)]) C (jd jdt_Mo_drinks 30 rfl) (by decide) rfl rfl) ?_
      exact J_some (fun hx => Wk_sb hx ⟨rfl, rfl, rfl, trivial⟩)
    · exact J_some (fun hx => Wk_sb hx ⟨rfl, rfl, rfl, trivial⟩)
  · refine J_mono (w_aload_n C (jd jdt_Mo_drinks 31 rfl) rfl) ?_
    refine J_mono (jg_Mo_118 C hp0 (jd jdt_Mo_drinks 32 rfl)) ?_
    refine J_mono (w_iload_n C (jd jdt_Mo_drinks 33 rfl) rfl) ?_
    refine J_mono (w_dup2 C (jd jdt_Mo_drinks 34 rfl)) ?_
    refine J_bind (fun v7 hv7 => ?_)
    refine J_mono (w_iald C (jkf_12_52 hp0) hv7 (jd jdt_Mo_drinks 35 rfl)) ?_
    refine J_mono (w_iload_n C (jd jdt_Mo_drinks 36 rfl) rfl) ?_
    refine J_mono (w_isub C (jd jdt_Mo_drinks 37 rfl)) ?_
    refine J_bind (fun M8 hM8 => ?_)
    refine J_mono (w_iast C F (jkf_12_52 hp0) hM8 (jd jdt_Mo_drinks 38 rfl)) ?_
    refine J_mono (w_aload_n C (jd jdt_Mo_drinks 39 rfl) rfl) ?_
    refine J_mono (w_dup_r C (jd jdt_Mo_drinks 40 rfl)) ?_
    refine J_mono (jg_Mo_401 C hp0 (jd jdt_Mo_drinks 41 rfl)) ?_
    refine J_mono (w_iload_n C (jd jdt_Mo_drinks 42 rfl) rfl) ?_
    refine J_mono (w_iadd C (jd jdt_Mo_drinks 43 rfl)) ?_
    refine J_mono (jp_Mo_401 C F hp0 (jd jdt_Mo_drinks 44 rfl)) ?_
    exact J_some (fun hx => hR (sI M8 a0 57 ((M8.1 a0 57) + q4)) hx _ _ (jd jdt_Mo_drinks 45 rfl))
end
theorem C_Mo_drinks (l : Launch) (G : JG) (F : jF G = false) (a0 : Nat) (a1 : Int32) (hp0 : jkd a0 12) (M : SM) {q : SM} (hf : f_Mo_drinks a0 a1 M = some q) : jMet l jy_Mo_drinks jb_Mo_drinks 4 none 1 0 0 G [.ref a0, .int a1] jN0 (jce G M) none jN0 (jce G q) :=
  j_met jo_Mo_drinks (by decide) (Nat.le_of_ble_eq_true rfl) (fun p e s m args below meth c C hr hm => K_Mo_drinks C F (Nat.le_refl _) a0 a1 hp0 M (fun t => t = q) (fun M' hX pc ls hd => by cases hX; exact w_vret C hr hd) _ hf rfl)
def f_Mo_draftOf (a0 : Nat) (a1 : Int32) (M : SM) : Option Int32 := (aI M (jpf a0 38) ((8 + (2 * a1)) + 1)).bind fun v1 => some v1
section
variable {p : Program} {l : Launch} {e : Env} {R : Room} {s : State} {m : MethodId} {args : Array Value} {below : List Frame} {meth : Method} {c : Code} {G : JG} {D : Nat} {Q : State → Prop}
set_option maxHeartbeats 4000000 in
set_option maxRecDepth 20000 in
theorem K_Mo_draftOf (C : jCx p R s m args meth c G jb_Mo_draftOf 2 D "SluicePitModel") (F : jF G = false) (hD : 1 ≤ D) (a0 : Nat) (a1 : Int32) (hp0 : jkd a0 12) (M : SM) (X : Int32 → Prop) (hR : ∀ v, X v → ∀ (pc : Nat) (ls : List (Option Value)), decode jb_Mo_draftOf pc = .ok (.ireturn, 1) → narrow FieldType.int (.int v) = .int v → Wk p l e R s m args below meth c G 2 Q 0 0 jN0 (jce G M) pc ls [.int v]) : J X (f_Mo_draftOf a0 a1 M) (Wk p l e R s m args below meth c G 2 Q 0 0 jN0 (jce G M) 0 [some (.ref a0), some (.int a1)] []) := by
  unfold f_Mo_draftOf
  refine J_mono (w_aload_n C (jd jdt_Mo_draftOf 0 rfl) rfl) ?_
  refine J_mono (jg_Mo_94 C hp0 (jd jdt_Mo_draftOf 1 rfl)) ?_
  refine J_mono (w_bipush_8 C (jd jdt_Mo_draftOf 2 rfl)) ?_
  refine J_mono (w_iconst_2 C (jd jdt_Mo_draftOf 3 rfl)) ?_
  refine J_mono (w_iload_n C (jd jdt_Mo_draftOf 4 rfl) rfl) ?_
  refine J_mono (w_imul C (jd jdt_Mo_draftOf 5 rfl)) ?_
  refine J_mono (w_iadd C (jd jdt_Mo_draftOf 6 rfl)) ?_
  refine J_mono (w_iconst_1 C (jd jdt_Mo_draftOf 7 rfl)) ?_
  refine J_mono (w_iadd C (jd jdt_Mo_draftOf 8 rfl)) ?_
  refine J_bind (fun v1 hv1 => ?_)
  refine J_mono (w_iald C (jkf_12_38 hp0) hv1 (jd jdt_Mo_draftOf 9 rfl)) ?_
  exact J_some (fun hx => hR v1 hx _ _ (jd jdt_Mo_draftOf 10 rfl) rfl)
end
theorem C_Mo_draftOf (l : Launch) (G : JG) (F : jF G = false) (a0 : Nat) (a1 : Int32) (hp0 : jkd a0 12) (M : SM) {q : Int32} (hf : f_Mo_draftOf a0 a1 M = some q) : jMet l jy_Mo_draftOf jb_Mo_draftOf 2 (some FieldType.int) 1 0 0 G [.ref a0, .int a1] jN0 (jce G M) (some (.int q)) jN0 (jce G M) :=
  j_met jo_Mo_draftOf (by decide) (Nat.le_of_ble_eq_true rfl) (fun p e s m args below meth c C hr hm => K_Mo_draftOf C F (Nat.le_refl _) a0 a1 hp0 M (fun t => t = q) (fun v hX pc ls hd hn => by cases hX; exact w_iret C hr hn hd) _ hf rfl)
def f_Mo_sails (a0 : Nat) (a1 : Int32) (M : SM) : Option SM := (aI M (jpf a0 53) a1).bind fun v1 => (aI M (jpf a0 52) v1).bind fun v2 => (f_Mo_draftOf a0 a1 M).bind fun q3 => if v2 < q3 then (some M) else (if v1 = ((M.1 a0 31) - 1) then (some M) else ((aI M (jpf a0 52) (v1 + 1)).bind fun v6 => (f_Mo_draftOf a0 a1 M).bind fun q7 => if v6 < q7 then (some M) else (if (M.1 a0 54) = 0 then ((aS M (jpf a0 53) a1 (v1 + 1)).bind fun M10 => some M10) else ((aI M (jpf a0 34) (12 + v1)).bind fun v11 => if v11 = 1 then (some M) else ((aS M (jpf a0 53) a1 (v1 + 1)).bind fun M13 => some M13)))))
section
variable {p : Program} {l : Launch} {e : Env} {R : Room} {s : State} {m : MethodId} {args : Array Value} {below : List Frame} {meth : Method} {c : Code} {G : JG} {D : Nat} {Q : State → Prop}
set_option maxHeartbeats 4000000 in
set_option maxRecDepth 20000 in
theorem K_Mo_sails (C : jCx p R s m args meth c G jb_Mo_sails 3 D "SluicePitModel") (F : jF G = false) (hD : 2 ≤ D) (a0 : Nat) (a1 : Int32) (hp0 : jkd a0 12) (M : SM) (X : SM → Prop) (hR : ∀ M', X M' → ∀ (pc : Nat) (ls : List (Option Value)), decode jb_Mo_sails pc = .ok (.return_, 1) → Wk p l e R s m args below meth c G 3 Q 0 0 jN0 (jce G M') pc ls []) : J X (f_Mo_sails a0 a1 M) (Wk p l e R s m args below meth c G 3 Q 0 0 jN0 (jce G M) 0 [some (.ref a0), some (.int a1), none] []) := by
  unfold f_Mo_sails
  refine J_mono (w_aload_n C (jd jdt_Mo_sails 0 rfl) rfl) ?_
  refine J_mono (jg_Mo_121 C hp0 (jd jdt_Mo_sails 1 rfl)) ?_
  refine J_mono (w_iload_n C (jd jdt_Mo_sails 2 rfl) rfl) ?_
  refine J_bind (fun v1 hv1 => ?_)
  refine J_mono (w_iald C (jkf_12_53 hp0) hv1 (jd jdt_Mo_sails 3 rfl)) ?_
  refine J_mono (w_istore_n (ls' := [some (.ref a0), some (.int a1), some (.int v1)]) C (jd jdt_Mo_sails 4 rfl) (by decide) rfl rfl) ?_
  refine J_mono (w_aload_n C (jd jdt_Mo_sails 5 rfl) rfl) ?_
  refine J_mono (jg_Mo_118 C hp0 (jd jdt_Mo_sails 6 rfl)) ?_
  refine J_mono (w_iload_n C (jd jdt_Mo_sails 7 rfl) rfl) ?_
  refine J_bind (fun v2 hv2 => ?_)
  refine J_mono (w_iald C (jkf_12_52 hp0) hv2 (jd jdt_Mo_sails 8 rfl)) ?_
  refine J_mono (w_aload_n C (jd jdt_Mo_sails 9 rfl) rfl) ?_
  refine J_mono (w_iload_n C (jd jdt_Mo_sails 10 rfl) rfl) ?_
  refine J_bind (fun q3 hq3 => ?_)
  refine J_mono (jc_Mo_404 C hp0 (C_Mo_draftOf l G F a0 a1 hp0 M hq3) rfl (Nat.le_trans (Nat.le_of_ble_eq_true rfl : 1 + 1 ≤ 2) hD) (jd jdt_Mo_sails 11 rfl)) ?_
  refine J_br (w_icmp_lt C (jd jdt_Mo_sails 12 rfl) rfl) (fun h4 => J_pos h4 ?_) (fun h4 => J_neg h4 ?_)
  · exact J_some (fun hx => hR M hx _ _ (jd jdt_Mo_sails 40 rfl))
  · refine J_mono (w_iload_n C (jd jdt_Mo_sails 13 rfl) rfl) ?_
    refine J_mono (w_aload_n C (jd jdt_Mo_sails 14 rfl) rfl) ?_
    refine J_mono (jg_Mo_367 C hp0 (jd jdt_Mo_sails 15 rfl)) ?_
    refine J_mono (w_iconst_1 C (jd jdt_Mo_sails 16 rfl)) ?_
    refine J_mono (w_isub C (jd jdt_Mo_sails 17 rfl)) ?_
    refine J_br (w_icmp_eq C (jd jdt_Mo_sails 18 rfl) rfl) (fun h5 => J_pos h5 ?_) (fun h5 => J_neg h5 ?_)
    · exact J_some (fun hx => hR M hx _ _ (jd jdt_Mo_sails 40 rfl))
    · refine J_mono (w_aload_n C (jd jdt_Mo_sails 19 rfl) rfl) ?_
      refine J_mono (jg_Mo_118 C hp0 (jd jdt_Mo_sails 20 rfl)) ?_
      refine J_mono (w_iload_n C (jd jdt_Mo_sails 21 rfl) rfl) ?_
      refine J_mono (w_iconst_1 C (jd jdt_Mo_sails 22 rfl)) ?_
      refine J_mono (w_iadd C (jd jdt_Mo_sails 23 rfl)) ?_
      refine J_bind (fun v6 hv6 => ?_)
      refine J_mono (w_iald C (jkf_12_52 hp0) hv6 (jd jdt_Mo_sails 24 rfl)) ?_
      refine J_mono (w_aload_n C (jd jdt_Mo_sails 25 rfl) rfl) ?_
      refine J_mono (w_iload_n C (jd jdt_Mo_sails 26 rfl) rfl) ?_
      refine J_bind (fun q7 hq7 => ?_)
      refine J_mono (jc_Mo_404 C hp0 (C_Mo_draftOf l G F a0 a1 hp0 M hq7) rfl (Nat.le_trans (Nat.le_of_ble_eq_true rfl : 1 + 1 ≤ 2) hD) (jd jdt_Mo_sails 27 rfl)) ?_
      refine J_br (w_icmp_lt C (jd jdt_Mo_sails 28 rfl) rfl) (fun h8 => J_pos h8 ?_) (fun h8 => J_neg h8 ?_)
      · exact J_some (fun hx => hR M hx _ _ (jd jdt_Mo_sails 40 rfl))
      · refine J_mono (w_aload_n C (jd jdt_Mo_sails 29 rfl) rfl) ?_
        refine J_mono (jg_Mo_398 C hp0 (jd jdt_Mo_sails 30 rfl)) ?_
        refine J_br (w_if_eq (y := 0) C (jd jdt_Mo_sails 31 rfl) rfl) (fun h9 => J_pos h9 ?_) (fun h9 => J_neg h9 ?_)
        · refine J_mono (w_aload_n C (jd jdt_Mo_sails 41 rfl) rfl) ?_
          refine J_mono (jg_Mo_121 C hp0 (jd jdt_Mo_sails 42 rfl)) ?_
          refine J_mono (w_iload_n C (jd jdt_Mo_sails 43 rfl) rfl) ?_
          refine J_mono (w_iload_n C (jd jdt_Mo_sails 44 rfl) rfl) ?_
          refine J_mono (w_iconst_1 C (jd jdt_Mo_sails 45 rfl)) ?_
          refine J_mono (w_iadd C (jd jdt_Mo_sails 46 rfl)) ?_
          refine J_bind (fun M10 hM10 => ?_)
          refine J_mono (w_iast C F (jkf_12_53 hp0) hM10 (jd jdt_Mo_sails 47 rfl)) ?_
          exact J_some (fun hx => hR M10 hx _ _ (jd jdt_Mo_sails 48 rfl))
        · refine J_mono (w_aload_n C (jd jdt_Mo_sails 32 rfl) rfl) ?_
          refine J_mono (jg_Mo_82 C hp0 (jd jdt_Mo_sails 33 rfl)) ?_
          refine J_mono (w_bipush_12 C (jd jdt_Mo_sails 34 rfl)) ?_
          refine J_mono (w_iload_n C (jd jdt_Mo_sails 35 rfl) rfl) ?_
          refine J_mono (w_iadd C (jd jdt_Mo_sails 36 rfl)) ?_
          refine J_bind (fun v11 hv11 => ?_)
          refine J_mono (w_iald C (jkf_12_34 hp0) hv11 (jd jdt_Mo_sails 37 rfl)) ?_
          refine J_mono (w_iconst_1 C (jd jdt_Mo_sails 38 rfl)) ?_
          refine J_br (w_icmp_ne C (jd jdt_Mo_sails 39 rfl) rfl) (fun h12 => J_pos h12 ?_) (fun h12 => J_neg h12 ?_)
          · exact J_some (fun hx => hR M hx _ _ (jd jdt_Mo_sails 40 rfl))
          · refine J_mono (w_aload_n C (jd jdt_Mo_sails 41 rfl) rfl) ?_
            refine J_mono (jg_Mo_121 C hp0 (jd jdt_Mo_sails 42 rfl)) ?_
            refine J_mono (w_iload_n C (jd jdt_Mo_sails 43 rfl) rfl) ?_
            refine J_mono (w_iload_n C (jd jdt_Mo_sails 44 rfl) rfl) ?_
            refine J_mono (w_iconst_1 C (jd jdt_Mo_sails 45 rfl)) ?_
            refine J_mono (w_iadd C (jd jdt_Mo_sails 46 rfl)) ?_
            refine J_bind (fun M13 hM13 => ?_)
            refine J_mono (w_iast C F (jkf_12_53 hp0) hM13 (jd jdt_Mo_sails 47 rfl)) ?_
            exact J_some (fun hx => hR M13 hx _ _ (jd jdt_Mo_sails 48 rfl))
end
theorem C_Mo_sails (l : Launch) (G : JG) (F : jF G = false) (a0 : Nat) (a1 : Int32) (hp0 : jkd a0 12) (M : SM) {q : SM} (hf : f_Mo_sails a0 a1 M = some q) : jMet l jy_Mo_sails jb_Mo_sails 3 none 2 0 0 G [.ref a0, .int a1] jN0 (jce G M) none jN0 (jce G q) :=
  j_met jo_Mo_sails (by decide) (Nat.le_of_ble_eq_true rfl) (fun p e s m args below meth c C hr hm => K_Mo_sails C F (Nat.le_refl _) a0 a1 hp0 M (fun t => t = q) (fun M' hX pc ls hd => by cases hX; exact w_vret C hr hd) _ hf rfl)
def lp_Mo_goes_22 (y0 : Nat) (y1 : Int32) : Nat → Int32 → SM → Option (SM)
  | 0, _, _ => none
  | n + 1, x2, M => (f_Mo_deskMany y0 M).bind fun q1 => if x2 < q1 then ((f_Mo_does y0 x2 y1 M).bind fun q3 => (if q3 = 0 then ((aI M (jpf y0 35) (8 + x2)).bind fun v6 => some (sI M y0 55 ((M.1 y0 55) + v6))) else (some M) : Option (SM)).bind fun q4 => (if q3 = 3 then (some (sI q4 y0 54 1)) else (some q4) : Option (SM)).bind fun q7 => lp_Mo_goes_22 y0 y1 n (x2 + 1) q7) else (some M)
def lp_Mo_goes_95 (y0 : Nat) : Nat → Int32 → SM → Option (SM)
  | 0, _, _ => none
  | n + 1, x2, M => if x2 < ((M.1 y0 31) - 1) then ((f_Mo_flows y0 x2 M).bind fun q14 => lp_Mo_goes_95 y0 n (x2 + 1) q14) else (some M)
def lp_Mo_goes_153 (y0 : Nat) : Nat → Int32 → SM → Option (SM)
  | 0, _, _ => none
  | n + 1, x2, M => (aI M (jpf y0 28) 7).bind fun v19 => if x2 < v19 then ((f_Mo_drinks y0 x2 M).bind fun q21 => lp_Mo_goes_153 y0 n (x2 + 1) q21) else (some M)
def lp_Mo_goes_177 (y0 : Nat) : Nat → Int32 → SM → Option (SM)
  | 0, _, _ => none
  | n + 1, x2, M => if x2 < (M.1 y0 31) then ((aI M (jpf y0 52) x2).bind fun v24 => (aI M (jpf y0 41) 1).bind fun v25 => (if v25 < v24 then ((aI M (jpf y0 52) x2).bind fun v28 => (aI M (jpf y0 41) 1).bind fun v29 => (aI (sI M y0 58 ((M.1 y0 58) + (v28 - v29))) (jpf y0 41) 1).bind fun v30 => (aS (sI M y0 58 ((M.1 y0 58) + (v28 - v29))) (jpf y0 52) x2 v30).bind fun M31 => some M31) else (some M) : Option (SM)).bind fun q26 => lp_Mo_goes_177 y0 n (x2 + 1) q26) else (some M)
def lp_Mo_goes_245 (y0 : Nat) : Nat → Int32 → SM → Option (SM)
  | 0, _, _ => none
  | n + 1, x2, M => (aI M (jpf y0 28) 6).bind fun v33 => if x2 < v33 then ((f_Mo_sails y0 x2 M).bind fun q35 => lp_Mo_goes_245 y0 n (x2 + 1) q35) else (some M)
def f_Mo_goes (a0 : Nat) (a1 : Int32) (M : SM) : Option SM := (lp_Mo_goes_22 a0 a1 jfuel 0 (sI (sI (sI (sI M a0 54 0) a0 55 0) a0 57 0) a0 58 0)).bind fun q9 => (aI q9 (jpf a0 40) 1).bind fun v10 => (aI q9 (jpf a0 52) v10).bind fun v11 => (aS q9 (jpf a0 52) v10 (v11 + (q9.1 a0 55))).bind fun M12 => (lp_Mo_goes_95 a0 jfuel 0 M12).bind fun q15 => (aI q15 (jpf a0 52) ((q15.1 a0 31) - 1)).bind fun v16 => (aI (sI q15 a0 56 (v16 / 2)) (jpf a0 52) (((sI q15 a0 56 (v16 / 2)).1 a0 31) - 1)).bind fun v17 => (aS (sI q15 a0 56 (v16 / 2)) (jpf a0 52) (((sI q15 a0 56 (v16 / 2)).1 a0 31) - 1) (v17 - ((sI q15 a0 56 (v16 / 2)).1 a0 56))).bind fun M18 => (lp_Mo_goes_153 a0 jfuel 0 M18).bind fun q22 => (lp_Mo_goes_177 a0 jfuel 0 q22).bind fun q32 => (lp_Mo_goes_245 a0 jfuel 0 q32).bind fun q36 => some q36
section
variable {p : Program} {l : Launch} {e : Env} {R : Room} {s : State} {m : MethodId} {args : Array Value} {below : List Frame} {meth : Method} {c : Code} {G : JG} {D : Nat} {Q : State → Prop}
set_option maxHeartbeats 4000000 in
set_option maxRecDepth 20000 in
theorem K_Mo_goes (C : jCx p R s m args meth c G jb_Mo_goes 4 D "SluicePitModel") (F : jF G = false) (hD : 4 ≤ D) (a0 : Nat) (a1 : Int32) (hp0 : jkd a0 12) (M : SM) (X : SM → Prop) (hR : ∀ M', X M' → ∀ (pc : Nat) (ls : List (Option Value)), decode jb_Mo_goes pc = .ok (.return_, 1) → Wk p l e R s m args below meth c G 4 Q 0 0 jN0 (jce G M') pc ls []) : J X (f_Mo_goes a0 a1 M) (Wk p l e R s m args below meth c G 4 Q 0 0 jN0 (jce G M) 0 [some (.ref a0), some (.int a1), none, none] []) := by
  unfold f_Mo_goes
  refine J_mono (w_aload_n C (jd jdt_Mo_goes 0 rfl) rfl) ?_
  refine J_mono (w_iconst_0 C (jd jdt_Mo_goes 1 rfl)) ?_
  refine J_mono (jp_Mo_398 C F hp0 (Or.inl rfl) (jd jdt_Mo_goes 2 rfl)) ?_
  refine J_mono (w_aload_n C (jd jdt_Mo_goes 3 rfl) rfl) ?_
  refine J_mono (w_iconst_0 C (jd jdt_Mo_goes 4 rfl)) ?_
  refine J_mono (jp_Mo_407 C F hp0 (jd jdt_Mo_goes 5 rfl)) ?_
  refine J_mono (w_aload_n C (jd jdt_Mo_goes 6 rfl) rfl) ?_
  refine J_mono (w_iconst_0 C (jd jdt_Mo_goes 7 rfl)) ?_
  refine J_mono (jp_Mo_401 C F hp0 (jd jdt_Mo_goes 8 rfl)) ?_
  refine J_mono (w_aload_n C (jd jdt_Mo_goes 9 rfl) rfl) ?_
  refine J_mono (w_iconst_0 C (jd jdt_Mo_goes 10 rfl)) ?_
  refine J_mono (jp_Mo_410 C F hp0 (jd jdt_Mo_goes 11 rfl)) ?_
  refine J_mono (w_iconst_0 C (jd jdt_Mo_goes 12 rfl)) ?_
  refine J_mono (w_istore_n (ls' := [some (.ref a0), some (.int a1), some (.int 0), none]) C (jd jdt_Mo_goes 13 rfl) (by decide) rfl rfl) ?_
  have L22 : ∀ (y0 : Nat) (y1 : Int32) (hy0 : jkd y0 12) (n : Nat) (x2 : Int32) (M : SM), J (fun (q9 : SM) => Wk p l e R s m args below meth c G 4 Q 0 0 jN0 (jce G q9) 75 [some (.ref y0), none, none, none] []) (lp_Mo_goes_22 y0 y1 n x2 M) (Wk p l e R s m args below meth c G 4 Q 0 0 jN0 (jce G M) 22 [some (.ref y0), some (.int y1), some (.int x2), none] []) := by
    intro y0 y1 hy0 n
    induction n with
    | zero => intro x2 M; exact J_none
    | succ n ih =>
      intro x2 M
      unfold lp_Mo_goes_22
      refine J_mono (w_iload_n C (jd jdt_Mo_goes 14 rfl) rfl) ?_
      refine J_mono (w_aload_n C (jd jdt_Mo_goes 15 rfl) rfl) ?_
      refine J_bind (fun q1 hq1 => ?_)
      refine J_mono (jc_Mo_380 C hy0 (C_Mo_deskMany l G F y0 hy0 M hq1) rfl (Nat.le_trans (Nat.le_of_ble_eq_true rfl : 1 + 1 ≤ 4) hD) (jd jdt_Mo_goes 16 rfl)) ?_
      refine J_br (w_icmp_ge C (jd jdt_Mo_goes 17 rfl) rfl) (fun h2 => J_pos h2 ?_) (fun h2 => J_neg h2 ?_)
      · refine J_mono (w_aload_n C (jd jdt_Mo_goes 18 rfl) rfl) ?_
        refine J_mono (w_iload_n C (jd jdt_Mo_goes 19 rfl) rfl) ?_
        refine J_mono (w_iload_n C (jd jdt_Mo_goes 20 rfl) rfl) ?_
        refine J_bind (fun q3 hq3 => ?_)
        refine J_mono (jc_Mo_413 C hy0 (C_Mo_does l G F y0 x2 y1 hy0 M hq3) rfl (Nat.le_trans (Nat.le_of_ble_eq_true rfl : 3 + 1 ≤ 4) hD) (jd jdt_Mo_goes 21 rfl)) ?_
        refine J_mono (w_istore_n (ls' := [some (.ref y0), some (.int y1), some (.int x2), some (.int q3)]) C (jd jdt_Mo_goes 22 rfl) (by decide) rfl rfl) ?_
        refine J_mono (w_iload_n C (jd jdt_Mo_goes 23 rfl) rfl) ?_
        refine J_seq (fun (q4 : SM) => Wk p l e R s m args below meth c G 4 Q 0 0 jN0 (jce G q4) 59 [some (.ref y0), some (.int y1), some (.int x2), some (.int q3)] []) ?_ (fun q4 hq4 => ?_)
        · refine J_br (w_if_ne (y := 0) C (jd jdt_Mo_goes 24 rfl) rfl) (fun h5 => J_pos h5 ?_) (fun h5 => J_neg h5 ?_)
          · refine J_mono (w_aload_n C (jd jdt_Mo_goes 25 rfl) rfl) ?_
            refine J_mono (w_dup_r C (jd jdt_Mo_goes 26 rfl)) ?_
            refine J_mono (jg_Mo_407 C hy0 (jd jdt_Mo_goes 27 rfl)) ?_
            refine J_mono (w_aload_n C (jd jdt_Mo_goes 28 rfl) rfl) ?_
            refine J_mono (jg_Mo_85 C hy0 (jd jdt_Mo_goes 29 rfl)) ?_
            refine J_mono (w_bipush_8 C (jd jdt_Mo_goes 30 rfl)) ?_
            refine J_mono (w_iload_n C (jd jdt_Mo_goes 31 rfl) rfl) ?_
            refine J_mono (w_iadd C (jd jdt_Mo_goes 32 rfl)) ?_
            refine J_bind (fun v6 hv6 => ?_)
            refine J_mono (w_iald C (jkf_12_35 hy0) hv6 (jd jdt_Mo_goes 33 rfl)) ?_
            refine J_mono (w_iadd C (jd jdt_Mo_goes 34 rfl)) ?_
            refine J_mono (jp_Mo_407 C F hy0 (jd jdt_Mo_goes 35 rfl)) ?_
            exact J_some (fun hx => Wk_sb hx ⟨rfl, rfl, rfl, rfl, trivial⟩)
          · exact J_some (fun hx => Wk_sb hx ⟨rfl, rfl, rfl, rfl, trivial⟩)
        · refine J_mono (w_iload_n C (jd jdt_Mo_goes 36 rfl) rfl) ?_
          refine J_mono (w_iconst_3 C (jd jdt_Mo_goes 37 rfl)) ?_
          refine J_seq (fun (q7 : SM) => Wk p l e R s m args below meth c G 4 Q 0 0 jN0 (jce G q7) 69 [some (.ref y0), some (.int y1), some (.int x2), none] []) ?_ (fun q7 hq7 => ?_)
          · refine J_br (w_icmp_ne C (jd jdt_Mo_goes 38 rfl) rfl) (fun h8 => J_pos h8 ?_) (fun h8 => J_neg h8 ?_)
            · refine J_mono (w_aload_n C (jd jdt_Mo_goes 39 rfl) rfl) ?_
              refine J_mono (w_iconst_1 C (jd jdt_Mo_goes 40 rfl)) ?_
              refine J_mono (jp_Mo_398 C F hy0 (Or.inr rfl) (jd jdt_Mo_goes 41 rfl)) ?_
              exact J_some (fun hx => Wk_sb hx ⟨rfl, rfl, rfl, trivial⟩)
            · exact J_some (fun hx => Wk_sb hx ⟨rfl, rfl, rfl, trivial⟩)
          · refine J_mono (w_iinc (v := x2 + 1) (ls' := [some (.ref y0), some (.int y1), some (.int (x2 + 1)), none]) C (jd jdt_Mo_goes 42 rfl) rfl rfl (by decide) rfl rfl) ?_
            refine J_mono (w_goto C (jd jdt_Mo_goes 43 rfl) rfl) ?_
            exact J_sub (ih (x2 + 1) q7) ⟨rfl, rfl, rfl, trivial⟩
      · exact J_some (fun hx => Wk_sb hx ⟨rfl, trivial⟩)
  refine J_seq (fun (q9 : SM) => Wk p l e R s m args below meth c G 4 Q 0 0 jN0 (jce G q9) 75 [some (.ref a0), none, none, none] []) (J_sub (L22 a0 a1 hp0 jfuel 0 (sI (sI (sI (sI M a0 54 0) a0 55 0) a0 57 0) a0 58 0)) ⟨rfl, rfl, rfl, trivial⟩) (fun q9 hq9 => ?_)
  refine J_mono (w_aload_n C (jd jdt_Mo_goes 44 rfl) rfl) ?_
  refine J_mono (jg_Mo_118 C hp0 (jd jdt_Mo_goes 45 rfl)) ?_
  refine J_mono (w_aload_n C (jd jdt_Mo_goes 46 rfl) rfl) ?_
  refine J_mono (jg_Mo_100 C hp0 (jd jdt_Mo_goes 47 rfl)) ?_
  refine J_mono (w_iconst_1 C (jd jdt_Mo_goes 48 rfl)) ?_
  refine J_bind (fun v10 hv10 => ?_)
  refine J_mono (w_iald C (jkf_12_40 hp0) hv10 (jd jdt_Mo_goes 49 rfl)) ?_
  refine J_mono (w_dup2 C (jd jdt_Mo_goes 50 rfl)) ?_
  refine J_bind (fun v11 hv11 => ?_)
  refine J_mono (w_iald C (jkf_12_52 hp0) hv11 (jd jdt_Mo_goes 51 rfl)) ?_
  refine J_mono (w_aload_n C (jd jdt_Mo_goes 52 rfl) rfl) ?_
  refine J_mono (jg_Mo_407 C hp0 (jd jdt_Mo_goes 53 rfl)) ?_
  refine J_mono (w_iadd C (jd jdt_Mo_goes 54 rfl)) ?_
  refine J_bind (fun M12 hM12 => ?_)
  refine J_mono (w_iast C F (jkf_12_52 hp0) hM12 (jd jdt_Mo_goes 55 rfl)) ?_
  refine J_mono (w_iconst_0 C (jd jdt_Mo_goes 56 rfl)) ?_
  refine J_mono (w_istore_n (ls' := [some (.ref a0), none, some (.int 0), none]) C (jd jdt_Mo_goes 57 rfl) (by decide) rfl rfl) ?_
  have L95 : ∀ (y0 : Nat) (hy0 : jkd y0 12) (n : Nat) (x2 : Int32) (M : SM), J (fun (q15 : SM) => Wk p l e R s m args below meth c G 4 Q 0 0 jN0 (jce G q15) 116 [some (.ref y0), none, none, none] []) (lp_Mo_goes_95 y0 n x2 M) (Wk p l e R s m args below meth c G 4 Q 0 0 jN0 (jce G M) 95 [some (.ref y0), none, some (.int x2), none] []) := by
    intro y0 hy0 n
    induction n with
    | zero => intro x2 M; exact J_none
    | succ n ih =>
      intro x2 M
      unfold lp_Mo_goes_95
      refine J_mono (w_iload_n C (jd jdt_Mo_goes 58 rfl) rfl) ?_
      refine J_mono (w_aload_n C (jd jdt_Mo_goes 59 rfl) rfl) ?_
      refine J_mono (jg_Mo_367 C hy0 (jd jdt_Mo_goes 60 rfl)) ?_
      refine J_mono (w_iconst_1 C (jd jdt_Mo_goes 61 rfl)) ?_
      refine J_mono (w_isub C (jd jdt_Mo_goes 62 rfl)) ?_
      refine J_br (w_icmp_ge C (jd jdt_Mo_goes 63 rfl) rfl) (fun h13 => J_pos h13 ?_) (fun h13 => J_neg h13 ?_)
      · refine J_mono (w_aload_n C (jd jdt_Mo_goes 64 rfl) rfl) ?_
        refine J_mono (w_iload_n C (jd jdt_Mo_goes 65 rfl) rfl) ?_
        refine J_bind (fun q14 hq14 => ?_)
        refine J_mono (jc_Mo_416 C hy0 (C_Mo_flows l G F y0 x2 hy0 M hq14) rfl (Nat.le_trans (Nat.le_of_ble_eq_true rfl : 1 + 1 ≤ 4) hD) (jd jdt_Mo_goes 66 rfl)) ?_
        refine J_mono (w_iinc (v := x2 + 1) (ls' := [some (.ref y0), none, some (.int (x2 + 1)), none]) C (jd jdt_Mo_goes 67 rfl) rfl rfl (by decide) rfl rfl) ?_
        refine J_mono (w_goto C (jd jdt_Mo_goes 68 rfl) rfl) ?_
        exact J_sub (ih (x2 + 1) q14) ⟨rfl, rfl, trivial⟩
      · exact J_some (fun hx => Wk_sb hx ⟨rfl, trivial⟩)
  refine J_seq (fun (q15 : SM) => Wk p l e R s m args below meth c G 4 Q 0 0 jN0 (jce G q15) 116 [some (.ref a0), none, none, none] []) (J_sub (L95 a0 hp0 jfuel 0 M12) ⟨rfl, rfl, trivial⟩) (fun q15 hq15 => ?_)
  refine J_mono (w_aload_n C (jd jdt_Mo_goes 69 rfl) rfl) ?_
  refine J_mono (w_aload_n C (jd jdt_Mo_goes 70 rfl) rfl) ?_
  refine J_mono (jg_Mo_118 C hp0 (jd jdt_Mo_goes 71 rfl)) ?_
  refine J_mono (w_aload_n C (jd jdt_Mo_goes 72 rfl) rfl) ?_
  refine J_mono (jg_Mo_367 C hp0 (jd jdt_Mo_goes 73 rfl)) ?_
  refine J_mono (w_iconst_1 C (jd jdt_Mo_goes 74 rfl)) ?_
  refine J_mono (w_isub C (jd jdt_Mo_goes 75 rfl)) ?_
  refine J_bind (fun v16 hv16 => ?_)
  refine J_mono (w_iald C (jkf_12_52 hp0) hv16 (jd jdt_Mo_goes 76 rfl)) ?_
  refine J_mono (w_iconst_2 C (jd jdt_Mo_goes 77 rfl)) ?_
  refine J_mono (w_idiv C (jd jdt_Mo_goes 78 rfl) (by decide)) ?_
  refine J_mono (jp_Mo_419 C F hp0 (jd jdt_Mo_goes 79 rfl)) ?_
  refine J_mono (w_aload_n C (jd jdt_Mo_goes 80 rfl) rfl) ?_
  refine J_mono (jg_Mo_118 C hp0 (jd jdt_Mo_goes 81 rfl)) ?_
  refine J_mono (w_aload_n C (jd jdt_Mo_goes 82 rfl) rfl) ?_
  refine J_mono (jg_Mo_367 C hp0 (jd jdt_Mo_goes 83 rfl)) ?_
  refine J_mono (w_iconst_1 C (jd jdt_Mo_goes 84 rfl)) ?_
  refine J_mono (w_isub C (jd jdt_Mo_goes 85 rfl)) ?_
  refine J_mono (w_dup2 C (jd jdt_Mo_goes 86 rfl)) ?_
  refine J_bind (fun v17 hv17 => ?_)
  refine J_mono (w_iald C (jkf_12_52 hp0) hv17 (jd jdt_Mo_goes 87 rfl)) ?_
  refine J_mono (w_aload_n C (jd jdt_Mo_goes 88 rfl) rfl) ?_
  refine J_mono (jg_Mo_419 C hp0 (jd jdt_Mo_goes 89 rfl)) ?_
  refine J_mono (w_isub C (jd jdt_Mo_goes 90 rfl)) ?_
  refine J_bind (fun M18 hM18 => ?_)
  refine J_mono (w_iast C F (jkf_12_52 hp0) hM18 (jd jdt_Mo_goes 91 rfl)) ?_
  refine J_mono (w_iconst_0 C (jd jdt_Mo_goes 92 rfl)) ?_
  refine J_mono (w_istore_n (ls' := [some (.ref a0), none, some (.int 0), none]) C (jd jdt_Mo_goes 93 rfl) (by decide) rfl rfl) ?_
  have L153 : ∀ (y0 : Nat) (hy0 : jkd y0 12) (n : Nat) (x2 : Int32) (M : SM), J (fun (q22 : SM) => Wk p l e R s m args below meth c G 4 Q 0 0 jN0 (jce G q22) 175 [some (.ref y0), none, none, none] []) (lp_Mo_goes_153 y0 n x2 M) (Wk p l e R s m args below meth c G 4 Q 0 0 jN0 (jce G M) 153 [some (.ref y0), none, some (.int x2), none] []) := by
    intro y0 hy0 n
    induction n with
    | zero => intro x2 M; exact J_none
    | succ n ih =>
      intro x2 M
      unfold lp_Mo_goes_153
      refine J_mono (w_iload_n C (jd jdt_Mo_goes 94 rfl) rfl) ?_
      refine J_mono (w_aload_n C (jd jdt_Mo_goes 95 rfl) rfl) ?_
      refine J_mono (jg_Mo_69 C hy0 (jd jdt_Mo_goes 96 rfl)) ?_
      refine J_mono (w_bipush_7 C (jd jdt_Mo_goes 97 rfl)) ?_
      refine J_bind (fun v19 hv19 => ?_)
      refine J_mono (w_iald C (jkf_12_28 hy0) hv19 (jd jdt_Mo_goes 98 rfl)) ?_
      refine J_br (w_icmp_ge C (jd jdt_Mo_goes 99 rfl) rfl) (fun h20 => J_pos h20 ?_) (fun h20 => J_neg h20 ?_)
      · refine J_mono (w_aload_n C (jd jdt_Mo_goes 100 rfl) rfl) ?_
        refine J_mono (w_iload_n C (jd jdt_Mo_goes 101 rfl) rfl) ?_
        refine J_bind (fun q21 hq21 => ?_)
        refine J_mono (jc_Mo_422 C hy0 (C_Mo_drinks l G F y0 x2 hy0 M hq21) rfl (Nat.le_trans (Nat.le_of_ble_eq_true rfl : 1 + 1 ≤ 4) hD) (jd jdt_Mo_goes 102 rfl)) ?_
        refine J_mono (w_iinc (v := x2 + 1) (ls' := [some (.ref y0), none, some (.int (x2 + 1)), none]) C (jd jdt_Mo_goes 103 rfl) rfl rfl (by decide) rfl rfl) ?_
        refine J_mono (w_goto C (jd jdt_Mo_goes 104 rfl) rfl) ?_
        exact J_sub (ih (x2 + 1) q21) ⟨rfl, rfl, trivial⟩
      · exact J_some (fun hx => Wk_sb hx ⟨rfl, trivial⟩)
  refine J_seq (fun (q22 : SM) => Wk p l e R s m args below meth c G 4 Q 0 0 jN0 (jce G q22) 175 [some (.ref a0), none, none, none] []) (J_sub (L153 a0 hp0 jfuel 0 M18) ⟨rfl, rfl, trivial⟩) (fun q22 hq22 => ?_)
  refine J_mono (w_iconst_0 C (jd jdt_Mo_goes 105 rfl)) ?_
  refine J_mono (w_istore_n (ls' := [some (.ref a0), none, some (.int 0), none]) C (jd jdt_Mo_goes 106 rfl) (by decide) rfl rfl) ?_
  have L177 : ∀ (y0 : Nat) (hy0 : jkd y0 12) (n : Nat) (x2 : Int32) (M : SM), J (fun (q32 : SM) => Wk p l e R s m args below meth c G 4 Q 0 0 jN0 (jce G q32) 243 [some (.ref y0), none, none, none] []) (lp_Mo_goes_177 y0 n x2 M) (Wk p l e R s m args below meth c G 4 Q 0 0 jN0 (jce G M) 177 [some (.ref y0), none, some (.int x2), none] []) := by
    intro y0 hy0 n
    induction n with
    | zero => intro x2 M; exact J_none
    | succ n ih =>
      intro x2 M
      unfold lp_Mo_goes_177
      refine J_mono (w_iload_n C (jd jdt_Mo_goes 107 rfl) rfl) ?_
      refine J_mono (w_aload_n C (jd jdt_Mo_goes 108 rfl) rfl) ?_
      refine J_mono (jg_Mo_367 C hy0 (jd jdt_Mo_goes 109 rfl)) ?_
      refine J_br (w_icmp_ge C (jd jdt_Mo_goes 110 rfl) rfl) (fun h23 => J_pos h23 ?_) (fun h23 => J_neg h23 ?_)
      · refine J_mono (w_aload_n C (jd jdt_Mo_goes 111 rfl) rfl) ?_
        refine J_mono (jg_Mo_118 C hy0 (jd jdt_Mo_goes 112 rfl)) ?_
        refine J_mono (w_iload_n C (jd jdt_Mo_goes 113 rfl) rfl) ?_
        refine J_bind (fun v24 hv24 => ?_)
        refine J_mono (w_iald C (jkf_12_52 hy0) hv24 (jd jdt_Mo_goes 114 rfl)) ?_
        refine J_mono (w_aload_n C (jd jdt_Mo_goes 115 rfl) rfl) ?_
        refine J_mono (jg_Mo_103 C hy0 (jd jdt_Mo_goes 116 rfl)) ?_
        refine J_mono (w_iconst_1 C (jd jdt_Mo_goes 117 rfl)) ?_
        refine J_bind (fun v25 hv25 => ?_)
        refine J_mono (w_iald C (jkf_12_41 hy0) hv25 (jd jdt_Mo_goes 118 rfl)) ?_
        refine J_seq (fun (q26 : SM) => Wk p l e R s m args below meth c G 4 Q 0 0 jN0 (jce G q26) 237 [some (.ref y0), none, some (.int x2), none] []) ?_ (fun q26 hq26 => ?_)
        · refine J_br (w_icmp_gt C (jd jdt_Mo_goes 119 rfl) rfl) (fun h27 => J_pos h27 ?_) (fun h27 => J_neg h27 ?_)
          · refine J_mono (w_aload_n C (jd jdt_Mo_goes 121 rfl) rfl) ?_
            refine J_mono (w_dup_r C (jd jdt_Mo_goes 122 rfl)) ?_
            refine J_mono (jg_Mo_410 C hy0 (jd jdt_Mo_goes 123 rfl)) ?_
            refine J_mono (w_aload_n C (jd jdt_Mo_goes 124 rfl) rfl) ?_
            refine J_mono (jg_Mo_118 C hy0 (jd jdt_Mo_goes 125 rfl)) ?_
            refine J_mono (w_iload_n C (jd jdt_Mo_goes 126 rfl) rfl) ?_
            refine J_bind (fun v28 hv28 => ?_)
            refine J_mono (w_iald C (jkf_12_52 hy0) hv28 (jd jdt_Mo_goes 127 rfl)) ?_
            refine J_mono (w_aload_n C (jd jdt_Mo_goes 128 rfl) rfl) ?_
            refine J_mono (jg_Mo_103 C hy0 (jd jdt_Mo_goes 129 rfl)) ?_
            refine J_mono (w_iconst_1 C (jd jdt_Mo_goes 130 rfl)) ?_
            refine J_bind (fun v29 hv29 => ?_)
            refine J_mono (w_iald C (jkf_12_41 hy0) hv29 (jd jdt_Mo_goes 131 rfl)) ?_
            refine J_mono (w_isub C (jd jdt_Mo_goes 132 rfl)) ?_
            refine J_mono (w_iadd C (jd jdt_Mo_goes 133 rfl)) ?_
            refine J_mono (jp_Mo_410 C F hy0 (jd jdt_Mo_goes 134 rfl)) ?_
            refine J_mono (w_aload_n C (jd jdt_Mo_goes 135 rfl) rfl) ?_
            refine J_mono (jg_Mo_118 C hy0 (jd jdt_Mo_goes 136 rfl)) ?_
            refine J_mono (w_iload_n C (jd jdt_Mo_goes 137 rfl) rfl) ?_
            refine J_mono (w_aload_n C (jd jdt_Mo_goes 138 rfl) rfl) ?_
            refine J_mono (jg_Mo_103 C hy0 (jd jdt_Mo_goes 139 rfl)) ?_
            refine J_mono (w_iconst_1 C (jd jdt_Mo_goes 140 rfl)) ?_
            refine J_bind (fun v30 hv30 => ?_)
            refine J_mono (w_iald C (jkf_12_41 hy0) hv30 (jd jdt_Mo_goes 141 rfl)) ?_
            refine J_bind (fun M31 hM31 => ?_)
            refine J_mono (w_iast C F (jkf_12_52 hy0) hM31 (jd jdt_Mo_goes 142 rfl)) ?_
            exact J_some (fun hx => Wk_sb hx ⟨rfl, rfl, trivial⟩)
          · refine J_mono (w_goto C (jd jdt_Mo_goes 120 rfl) rfl) ?_
            exact J_some (fun hx => Wk_sb hx ⟨rfl, rfl, trivial⟩)
        · refine J_mono (w_iinc (v := x2 + 1) (ls' := [some (.ref y0), none, some (.int (x2 + 1)), none]) C (jd jdt_Mo_goes 143 rfl) rfl rfl (by decide) rfl rfl) ?_
          refine J_mono (w_goto C (jd jdt_Mo_goes 144 rfl) rfl) ?_
          exact J_sub (ih (x2 + 1) q26) ⟨rfl, rfl, trivial⟩
      · exact J_some (fun hx => Wk_sb hx ⟨rfl, trivial⟩)
  refine J_seq (fun (q32 : SM) => Wk p l e R s m args below meth c G 4 Q 0 0 jN0 (jce G q32) 243 [some (.ref a0), none, none, none] []) (J_sub (L177 a0 hp0 jfuel 0 q22) ⟨rfl, rfl, trivial⟩) (fun q32 hq32 => ?_)
  refine J_mono (w_iconst_0 C (jd jdt_Mo_goes 145 rfl)) ?_
  refine J_mono (w_istore_n (ls' := [some (.ref a0), none, some (.int 0), none]) C (jd jdt_Mo_goes 146 rfl) (by decide) rfl rfl) ?_
  have L245 : ∀ (y0 : Nat) (hy0 : jkd y0 12) (n : Nat) (x2 : Int32) (M : SM), J (fun (q36 : SM) => Wk p l e R s m args below meth c G 4 Q 0 0 jN0 (jce G q36) 267 [none, none, none, none] []) (lp_Mo_goes_245 y0 n x2 M) (Wk p l e R s m args below meth c G 4 Q 0 0 jN0 (jce G M) 245 [some (.ref y0), none, some (.int x2), none] []) := by
    intro y0 hy0 n
    induction n with
    | zero => intro x2 M; exact J_none
    | succ n ih =>
      intro x2 M
      unfold lp_Mo_goes_245
      refine J_mono (w_iload_n C (jd jdt_Mo_goes 147 rfl) rfl) ?_
      refine J_mono (w_aload_n C (jd jdt_Mo_goes 148 rfl) rfl) ?_
      refine J_mono (jg_Mo_69 C hy0 (jd jdt_Mo_goes 149 rfl)) ?_
      refine J_mono (w_bipush_6 C (jd jdt_Mo_goes 150 rfl)) ?_
      refine J_bind (fun v33 hv33 => ?_)
      refine J_mono (w_iald C (jkf_12_28 hy0) hv33 (jd jdt_Mo_goes 151 rfl)) ?_
      refine J_br (w_icmp_ge C (jd jdt_Mo_goes 152 rfl) rfl) (fun h34 => J_pos h34 ?_) (fun h34 => J_neg h34 ?_)
      · refine J_mono (w_aload_n C (jd jdt_Mo_goes 153 rfl) rfl) ?_
        refine J_mono (w_iload_n C (jd jdt_Mo_goes 154 rfl) rfl) ?_
        refine J_bind (fun q35 hq35 => ?_)
        refine J_mono (jc_Mo_425 C hy0 (C_Mo_sails l G F y0 x2 hy0 M hq35) rfl (Nat.le_trans (Nat.le_of_ble_eq_true rfl : 2 + 1 ≤ 4) hD) (jd jdt_Mo_goes 155 rfl)) ?_
        refine J_mono (w_iinc (v := x2 + 1) (ls' := [some (.ref y0), none, some (.int (x2 + 1)), none]) C (jd jdt_Mo_goes 156 rfl) rfl rfl (by decide) rfl rfl) ?_
        refine J_mono (w_goto C (jd jdt_Mo_goes 157 rfl) rfl) ?_
        exact J_sub (ih (x2 + 1) q35) ⟨rfl, rfl, trivial⟩
      · exact J_some (fun hx => Wk_sb hx trivial)
  refine J_seq (fun (q36 : SM) => Wk p l e R s m args below meth c G 4 Q 0 0 jN0 (jce G q36) 267 [none, none, none, none] []) (J_sub (L245 a0 hp0 jfuel 0 q32) ⟨rfl, rfl, trivial⟩) (fun q36 hq36 => ?_)
  exact J_some (fun hx => hR q36 hx _ _ (jd jdt_Mo_goes 158 rfl))
end
theorem C_Mo_goes (l : Launch) (G : JG) (F : jF G = false) (a0 : Nat) (a1 : Int32) (hp0 : jkd a0 12) (M : SM) {q : SM} (hf : f_Mo_goes a0 a1 M = some q) : jMet l jy_Mo_goes jb_Mo_goes 4 none 4 0 0 G [.ref a0, .int a1] jN0 (jce G M) none jN0 (jce G q) :=
  j_met jo_Mo_goes (by decide) (Nat.le_of_ble_eq_true rfl) (fun p e s m args below meth c C hr hm => K_Mo_goes C F (Nat.le_refl _) a0 a1 hp0 M (fun t => t = q) (fun M' hX pc ls hd => by cases hX; exact w_vret C hr hd) _ hf rfl)
