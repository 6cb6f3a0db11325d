theorem dnew_def {G : JG} {Y : Nat → FieldType} {vs : List Value} {N : Nat} (hN : N ≤ vs.length) (h : ∀ k, k < N → vs[k]? = some (defaultValue (Y k)) ∧ jV G (defaultValue (Y k)) = defaultValue (Y k)) : ∀ k, k < N → defaultValue (Y k) = vp_V (vs.map (jV G)) k := fun k hk => by
  unfold vp_V
  rw [List.getD_eq_getElem?_getD, List.getElem?_map, (h k hk).1]
  exact (h k hk).2.symm
theorem jdf_0 {G : JG} : ∀ k, k < 5 → ([.null, .null, .null, .int 0, .int 0] : List Value)[k]? = some (defaultValue (jY0 k)) ∧ jV G (defaultValue (jY0 k)) = defaultValue (jY0 k) := fun k hk => ⟨(by decide +kernel : ∀ k, k < 5 → ([.null, .null, .null, .int 0, .int 0] : List Value)[k]? = some (defaultValue (jY0 k))) k hk, by cases h : jY0 k <;> rfl⟩
theorem jdf_1 {G : JG} : ∀ k, k < 14 → ([.int 0, .int 0, .int 0, .int 0, .int 0, .null, .null, .null, .null, .null, .null, .null, .null, .null] : List Value)[k]? = some (defaultValue (jY1 k)) ∧ jV G (defaultValue (jY1 k)) = defaultValue (jY1 k) := fun k hk => ⟨(by decide +kernel : ∀ k, k < 14 → ([.int 0, .int 0, .int 0, .int 0, .int 0, .null, .null, .null, .null, .null, .null, .null, .null, .null] : List Value)[k]? = some (defaultValue (jY1 k))) k hk, by cases h : jY1 k <;> rfl⟩
theorem jdf_2 {G : JG} : ∀ k, k < 3 → ([.null, .null, .null] : List Value)[k]? = some (defaultValue (jY2 k)) ∧ jV G (defaultValue (jY2 k)) = defaultValue (jY2 k) := fun k hk => ⟨(by decide +kernel : ∀ k, k < 3 → ([.null, .null, .null] : List Value)[k]? = some (defaultValue (jY2 k))) k hk, by cases h : jY2 k <;> rfl⟩
theorem jdf_3 {G : JG} : ∀ k, k < 3 → ([.null, .null, .int 0] : List Value)[k]? = some (defaultValue (jY3 k)) ∧ jV G (defaultValue (jY3 k)) = defaultValue (jY3 k) := fun k hk => ⟨(by decide +kernel : ∀ k, k < 3 → ([.null, .null, .int 0] : List Value)[k]? = some (defaultValue (jY3 k))) k hk, by cases h : jY3 k <;> rfl⟩
theorem jdf_4 {G : JG} : ∀ k, k < 2 → ([.null, .null] : List Value)[k]? = some (defaultValue (jY4 k)) ∧ jV G (defaultValue (jY4 k)) = defaultValue (jY4 k) := fun k hk => ⟨(by decide +kernel : ∀ k, k < 2 → ([.null, .null] : List Value)[k]? = some (defaultValue (jY4 k))) k hk, by cases h : jY4 k <;> rfl⟩
theorem jdf_5 {G : JG} : ∀ k, k < 11 → ([.null, .null, .int 0, .int 0, .int 0, .int 0, .int 0, .int 0, .int 0, .int 0, .int 0] : List Value)[k]? = some (defaultValue (jY5 k)) ∧ jV G (defaultValue (jY5 k)) = defaultValue (jY5 k) := fun k hk => ⟨(by decide +kernel : ∀ k, k < 11 → ([.null, .null, .int 0, .int 0, .int 0, .int 0, .int 0, .int 0, .int 0, .int 0, .int 0] : List Value)[k]? = some (defaultValue (jY5 k))) k hk, by cases h : jY5 k <;> rfl⟩
theorem jdf_6 {G : JG} : ∀ k, k < 5 → ([.null, .null, .null, .int 0, .null] : List Value)[k]? = some (defaultValue (jY6 k)) ∧ jV G (defaultValue (jY6 k)) = defaultValue (jY6 k) := fun k hk => ⟨(by decide +kernel : ∀ k, k < 5 → ([.null, .null, .null, .int 0, .null] : List Value)[k]? = some (defaultValue (jY6 k))) k hk, by cases h : jY6 k <;> rfl⟩
theorem jdf_7 {G : JG} : ∀ k, k < 7 → ([.null, .int 0, .null, .int 0, .int 0, .int 0, .int 0] : List Value)[k]? = some (defaultValue (jY7 k)) ∧ jV G (defaultValue (jY7 k)) = defaultValue (jY7 k) := fun k hk => ⟨(by decide +kernel : ∀ k, k < 7 → ([.null, .int 0, .null, .int 0, .int 0, .int 0, .int 0] : List Value)[k]? = some (defaultValue (jY7 k))) k hk, by cases h : jY7 k <;> rfl⟩
theorem jdf_8 {G : JG} : ∀ k, k < 3 → ([.null, .null, .null] : List Value)[k]? = some (defaultValue (jY8 k)) ∧ jV G (defaultValue (jY8 k)) = defaultValue (jY8 k) := fun k hk => ⟨(by decide +kernel : ∀ k, k < 3 → ([.null, .null, .null] : List Value)[k]? = some (defaultValue (jY8 k))) k hk, by cases h : jY8 k <;> rfl⟩
theorem jdf_9 {G : JG} : ∀ k, k < 3 → ([.null, .null, .int 0] : List Value)[k]? = some (defaultValue (jY9 k)) ∧ jV G (defaultValue (jY9 k)) = defaultValue (jY9 k) := fun k hk => ⟨(by decide +kernel : ∀ k, k < 3 → ([.null, .null, .int 0] : List Value)[k]? = some (defaultValue (jY9 k))) k hk, by cases h : jY9 k <;> rfl⟩
theorem jdf_10 {G : JG} : ∀ k, k < 2 → ([.null, .int 0] : List Value)[k]? = some (defaultValue (jY10 k)) ∧ jV G (defaultValue (jY10 k)) = defaultValue (jY10 k) := fun k hk => ⟨(by decide +kernel : ∀ k, k < 2 → ([.null, .int 0] : List Value)[k]? = some (defaultValue (jY10 k))) k hk, by cases h : jY10 k <;> rfl⟩
theorem jdf_11 {G : JG} : ∀ k, k < 15 → ([.null, .null, .null, .null, .null, .null, .null, .null, .null, .null, .null, .int 0, .long 0, .null, .int 0] : List Value)[k]? = some (defaultValue (jY11 k)) ∧ jV G (defaultValue (jY11 k)) = defaultValue (jY11 k) := fun k hk => ⟨(by decide +kernel : ∀ k, k < 15 → ([.null, .null, .null, .null, .null, .null, .null, .null, .null, .null, .null, .int 0, .long 0, .null, .int 0] : List Value)[k]? = some (defaultValue (jY11 k))) k hk, by cases h : jY11 k <;> rfl⟩
theorem jdf_12 {G : JG} : ∀ k, k < 100 → ([.null, .int 0, .int 0, .int 0, .int 0, .int 0, .int 0, .int 0, .int 0, .int 0, .null, .null, .null, .null, .null, .null, .null, .null, .null, .null, .null, .null, .null, .null, .null, .null, .null, .int 0, .null, .null, .int 0, .int 0, .null, .null, .null, .null, .null, .null, .null, .null, .null, .null, .int 0, .null, .int 0, .null, .int 0, .int 0, .int 0, .int 0, .int 0, .int 0, .null, .null, .int 0, .int 0, .int 0, .int 0, .int 0, .null, .null, .null, .null, .int 0, .int 0, .int 0, .null, .long 0, .null, .null, .null, .null, .null, .null, .null, .null, .null, .null, .null, .null, .null, .null, .null, .null, .null, .null, .null, .null, .null, .int 0, .null, .int 0, .int 0, .int 0, .null, .int 0, .long 0, .int 0, .null, .int 0] : List Value)[k]? = some (defaultValue (jY12 k)) ∧ jV G (defaultValue (jY12 k)) = defaultValue (jY12 k) := fun k hk => ⟨(by decide +kernel : ∀ k, k < 100 → ([.null, .int 0, .int 0, .int 0, .int 0, .int 0, .int 0, .int 0, .int 0, .int 0, .null, .null, .null, .null, .null, .null, .null, .null, .null, .null, .null, .null, .null, .null, .null, .null, .null, .int 0, .null, .null, .int 0, .int 0, .null, .null, .null, .null, .null, .null, .null, .null, .null, .null, .int 0, .null, .int 0, .null, .int 0, .int 0, .int 0, .int 0, .int 0, .int 0, .null, .null, .int 0, .int 0, .int 0, .int 0, .int 0, .null, .null, .null, .null, .int 0, .int 0, .int 0, .null, .long 0, .null, .null, .null, .null, .null, .null, .null, .null, .null, .null, .null, .null, .null, .null, .null, .null, .null, .null, .null, .null, .null, .int 0, .null, .int 0, .int 0, .int 0, .null, .int 0, .long 0, .int 0, .null, .int 0] : List Value)[k]? = some (defaultValue (jY12 k))) k hk, by cases h : jY12 k <;> rfl⟩
def lpd_fill (a : Nat) (v : Int32) (len : Nat) : Nat → Int32 → DM → Option DM
  | 0, _, _ => none
  | n + 1, x, M => if x < nI len then (dSet M a 100 x (.int v)).bind fun M1 => lpd_fill a v len n (x + 1) M1 else some M
def fd_JA_fill (a : Nat) (v : Int32) (M : DM) : Option DM := (dLen M a 100).bind fun len => (lpd_fill a v len jfuel 0 M).bind fun M1 => some M1
section
variable {p : Program} {l : Launch} {e : Env} {R : Room} {s : State} {m : MethodId} {args : Array Value} {below : List Frame} {meth : Method} {c : Code} {G : JG} {D : Nat} {Q : State → Prop}
set_option maxHeartbeats 4000000 in
set_option maxRecDepth 20000 in
theorem KD_JA_fill (C : jCx p R s m args meth c G jb_JA_fill 4 D "java/util/Arrays") (F : jF G = true) (a0 : Nat) (a1 : Int32) (M : DM) (X : DM → Prop) (hR : ∀ M', X M' → ∀ (pc : Nat) (ls : List (Option Value)), decode jb_JA_fill pc = .ok (.return_, 1) → Wk p l e R s m args below meth c G 4 Q 0 0 M'.length (dce G M') pc ls []) : J X (fd_JA_fill a0 a1 M) (Wk p l e R s m args below meth c G 4 Q 0 0 M.length (dce G M) 0 [some (.ref a0), some (.int a1), none, none] []) := by
  unfold fd_JA_fill
  refine J_bind (fun n1 hn1 => ?_)
  refine J_mono (w_iconst_0 C (jd jdt_JA_fill 0 rfl)) ?_
  refine J_mono (w_istore_n (ls' := [some (.ref a0), some (.int a1), some (.int 0), none]) C (jd jdt_JA_fill 1 rfl) (by decide) rfl rfl) ?_
  refine J_mono (w_aload_n C (jd jdt_JA_fill 2 rfl) rfl) ?_
  refine J_mono (d_alen C hn1 (jd jdt_JA_fill 3 rfl)) ?_
  refine J_mono (w_istore_n (ls' := [some (.ref a0), some (.int a1), some (.int 0), some (.int (nI n1))]) C (jd jdt_JA_fill 4 rfl) (by decide) rfl rfl) ?_
  have L5 : ∀ (n : Nat) (x2 : Int32) (M : DM), J (fun (q3 : DM) => Wk p l e R s m args below meth c G 4 Q 0 0 q3.length (dce G q3) 20 [none, none, none, none] []) (lpd_fill a0 a1 n1 n x2 M) (Wk p l e R s m args below meth c G 4 Q 0 0 M.length (dce G M) 5 [some (.ref a0), some (.int a1), some (.int x2), some (.int (nI n1))] []) := by
    intro n
    induction n with
    | zero => intro x2 M; exact J_none
    | succ n ih =>
      intro x2 M
      unfold lpd_fill
      refine J_mono (w_iload_n C (jd jdt_JA_fill 5 rfl) rfl) ?_
      refine J_mono (w_iload_n C (jd jdt_JA_fill 6 rfl) rfl) ?_
      refine J_br (w_icmp_ge C (jd jdt_JA_fill 7 rfl) rfl) (fun h1 => J_pos h1 ?_) (fun h1 => J_neg h1 ?_)
      · refine J_mono (w_aload_n C (jd jdt_JA_fill 8 rfl) rfl) ?_
        refine J_mono (w_iload_n C (jd jdt_JA_fill 9 rfl) rfl) ?_
        refine J_mono (w_iload_n C (jd jdt_JA_fill 10 rfl) rfl) ?_
        refine J_bind (fun M1 hM1 => ?_)
        refine J_mono (d_iast C F hM1 (jd jdt_JA_fill 11 rfl)) ?_
        refine J_mono (w_iinc (v := x2 + 1) (ls' := [some (.ref a0), some (.int a1), some (.int (x2 + 1)), some (.int (nI n1))]) C (jd jdt_JA_fill 12 rfl) rfl rfl (by decide) rfl rfl) ?_
        refine J_mono (w_goto C (jd jdt_JA_fill 13 rfl) rfl) ?_
        exact J_sub (ih (x2 + 1) M1) ⟨rfl, rfl, rfl, rfl, trivial⟩
      · exact J_some (fun hx => Wk_sb hx trivial)
  refine J_seq (fun (q3 : DM) => Wk p l e R s m args below meth c G 4 Q 0 0 q3.length (dce G q3) 20 [none, none, none, none] []) (J_sub (L5 jfuel 0 M) ⟨rfl, rfl, rfl, rfl, trivial⟩) (fun q3 hq3 => ?_)
  exact J_some (fun hx => hR q3 hx _ _ (jd jdt_JA_fill 14 rfl))
end
theorem CD_JA_fill (l : Launch) (G : JG) (F : jF G = true) (a0 : Nat) (a1 : Int32) (M : DM) {M' : DM} (hf : fd_JA_fill a0 a1 M = some M') : jMet l jy_JA_fill jb_JA_fill 4 none 1 0 0 G [.ref a0, .int a1] M.length (dce G M) none M'.length (dce G M') :=
  j_met jo_JA_fill (by decide) (Nat.le_of_ble_eq_true rfl) (fun p e s m args below meth c C hr hm => KD_JA_fill C F a0 a1 M (fun t => t = M') (fun M' hX pc ls hd => by cases hX; exact w_vret C hr hd) _ hf rfl)
def fd_Ta_init (a0 : Nat) (M : DM) : Option DM := (dNew M 100 (List.replicate 1600 (.int 0))).bind fun M1 => (dPut M1 a0 10 0 (.ref M.length)).bind fun M2 => (dPut M2 a0 10 1 (.int 0)).bind fun M3 => some M3
section
variable {p : Program} {l : Launch} {e : Env} {R : Room} {s : State} {m : MethodId} {args : Array Value} {below : List Frame} {meth : Method} {c : Code} {G : JG} {D : Nat} {Q : State → Prop}
set_option maxHeartbeats 4000000 in
set_option maxRecDepth 20000 in
theorem KD_Ta_init (C : jCx p R s m args meth c G jb_Ta_init 1 D "SluicePit$Tape") (F : jF G = true) (hD : 1 ≤ D) (hname : meth.name = "<init>") (hRc : 1 ≤ R.cells) (hRs : 1600 ≤ R.slots) (a0 : Nat) (M : DM) (X : DM → Prop) (hR : ∀ M', X M' → ∀ (pc : Nat) (ls : List (Option Value)), decode jb_Ta_init pc = .ok (.return_, 1) → Wk p l e R s m args below meth c G 1 Q 1 1600 M'.length (dce G M') pc ls []) : J X (fd_Ta_init a0 M) (Wk p l e R s m args below meth c G 1 Q 0 0 M.length (dce G M) 0 [some (.ref a0)] []) := by
  unfold fd_Ta_init
  refine J_mono (w_aload_n C (jd jdt_Ta_init 0 rfl) rfl) ?_
  refine J_mono (d_objInit C jw_34 rfl (jd jdt_Ta_init 1 rfl)) ?_
  refine J_mono (w_aload_n C (jd jdt_Ta_init 2 rfl) rfl) ?_
  refine J_mono (w_sipush_1600 C (jd jdt_Ta_init 3 rfl)) ?_
  refine J_bind (fun M1 hM1 => ?_)
  refine J_mono (d_newa (at_ := .int) C F hM1 jw_45 rfl (Or.inl ⟨rfl, rfl, rfl⟩) (by decide) (by decide) (by decide) (Nat.le_trans (Nat.le_of_ble_eq_true rfl : 1 ≤ 1) hRc) (Nat.le_trans (Nat.le_of_ble_eq_true rfl : 1600 ≤ 1600) hRs) (jd jdt_Ta_init 4 rfl)) ?_
  refine J_bind (fun M2 hM2 => ?_)
  refine J_mono (d_put (Cl := "SluicePit$Tape") (T := jT10) (Y := jY10) (N := 2) C F hM2 (by decide) rfl jin10 jY10_ok jnm10 (by decide) jw_35 rfl (Or.inr ⟨rfl, hname, rfl⟩) rfl rfl (jd jdt_Ta_init 5 rfl)) ?_
  refine J_mono (w_aload_n C (jd jdt_Ta_init 6 rfl) rfl) ?_
  refine J_mono (w_iconst_0 C (jd jdt_Ta_init 7 rfl)) ?_
  refine J_bind (fun M3 hM3 => ?_)
  refine J_mono (d_put (Cl := "SluicePit$Tape") (T := jT10) (Y := jY10) (N := 2) C F hM3 (by decide) rfl jin10 jY10_ok jnm10 (by decide) jw_37 rfl (Or.inl rfl) rfl rfl (jd jdt_Ta_init 8 rfl)) ?_
  exact J_some (fun hx => hR M3 hx _ _ (jd jdt_Ta_init 9 rfl))
end
theorem CD_Ta_init (l : Launch) (G : JG) (F : jF G = true) (a0 : Nat) (M : DM) {M' : DM} (hf : fd_Ta_init a0 M = some M') : jMet l jy_Ta_init jb_Ta_init 1 none 1 1 1600 G [.ref a0] M.length (dce G M) none M'.length (dce G M') :=
  j_met jo_Ta_init (by decide) (Nat.le_of_ble_eq_true rfl) (fun p e s m args below meth c C hr hm => KD_Ta_init C F (Nat.le_refl _) hm (Nat.le_refl _) (Nat.le_refl _) a0 M (fun t => t = M') (fun M' hX pc ls hd => by cases hX; exact w_vret C hr hd) _ hf rfl)
def fd_Re_init (a0 : Nat) (a1 : Nat) (M : DM) : Option DM := (dPut M a0 7 0 (.ref a1)).bind fun M1 => (dNew M1 100 (List.replicate 12 (.int 0))).bind fun M2 => (dPut M2 a0 7 2 (.ref M1.length)).bind fun M3 => (dPut M3 a0 7 1 (.int 0)).bind fun M4 => (dPut M4 a0 7 3 (.int 0)).bind fun M5 => (dPut M5 a0 7 4 (.int 0)).bind fun M6 => (dPut M6 a0 7 5 (.int 0)).bind fun M7 => (dPut M7 a0 7 6 (.int (-1))).bind fun M8 => some M8
section
variable {p : Program} {l : Launch} {e : Env} {R : Room} {s : State} {m : MethodId} {args : Array Value} {below : List Frame} {meth : Method} {c : Code} {G : JG} {D : Nat} {Q : State → Prop}
set_option maxHeartbeats 4000000 in
set_option maxRecDepth 20000 in
theorem KD_Re_init (C : jCx p R s m args meth c G jb_Re_init 2 D "SluicePit$Reader") (F : jF G = true) (hD : 1 ≤ D) (hname : meth.name = "<init>") (hRc : 1 ≤ R.cells) (hRs : 12 ≤ R.slots) (a0 : Nat) (a1 : Nat) (M : DM) (X : DM → Prop) (hR : ∀ M', X M' → ∀ (pc : Nat) (ls : List (Option Value)), decode jb_Re_init pc = .ok (.return_, 1) → Wk p l e R s m args below meth c G 2 Q 1 12 M'.length (dce G M') pc ls []) : J X (fd_Re_init a0 a1 M) (Wk p l e R s m args below meth c G 2 Q 0 0 M.length (dce G M) 0 [some (.ref a0), some (.ref a1)] []) := by
  unfold fd_Re_init
  refine J_mono (w_aload_n C (jd jdt_Re_init 0 rfl) rfl) ?_
  refine J_mono (d_objInit C jw_51 rfl (jd jdt_Re_init 1 rfl)) ?_
  refine J_mono (w_aload_n C (jd jdt_Re_init 2 rfl) rfl) ?_
  refine J_mono (w_aload_n C (jd jdt_Re_init 3 rfl) rfl) ?_
  refine J_bind (fun M1 hM1 => ?_)
  refine J_mono (d_put (Cl := "SluicePit$Reader") (T := jT7) (Y := jY7) (N := 7) C F hM1 (by decide) rfl jin7 jY7_ok jnm7 (by decide) jw_52 rfl (Or.inr ⟨rfl, hname, rfl⟩) rfl rfl (jd jdt_Re_init 4 rfl)) ?_
  refine J_mono (w_aload_n C (jd jdt_Re_init 5 rfl) rfl) ?_
  refine J_mono (w_bipush_12 C (jd jdt_Re_init 6 rfl)) ?_
  refine J_bind (fun M2 hM2 => ?_)
  refine J_mono (d_newa (at_ := .int) C F hM2 jw_45 rfl (Or.inl ⟨rfl, rfl, rfl⟩) (by decide) (by decide) (by decide) (Nat.le_trans (Nat.le_of_ble_eq_true rfl : 1 ≤ 1) hRc) (Nat.le_trans (Nat.le_of_ble_eq_true rfl : 12 ≤ 12) hRs) (jd jdt_Re_init 7 rfl)) ?_
  refine J_bind (fun M3 hM3 => ?_)
  refine J_mono (d_put (Cl := "SluicePit$Reader") (T := jT7) (Y := jY7) (N := 7) C F hM3 (by decide) rfl jin7 jY7_ok jnm7 (by decide) jw_54 rfl (Or.inr ⟨rfl, hname, rfl⟩) rfl rfl (jd jdt_Re_init 8 rfl)) ?_
  refine J_mono (w_aload_n C (jd jdt_Re_init 9 rfl) rfl) ?_
  refine J_mono (w_iconst_0 C (jd jdt_Re_init 10 rfl)) ?_
  refine J_bind (fun M4 hM4 => ?_)
  refine J_mono (d_put (Cl := "SluicePit$Reader") (T := jT7) (Y := jY7) (N := 7) C F hM4 (by decide) rfl jin7 jY7_ok jnm7 (by decide) jw_53 rfl (Or.inl rfl) rfl rfl (jd jdt_Re_init 11 rfl)) ?_
  refine J_mono (w_aload_n C (jd jdt_Re_init 12 rfl) rfl) ?_
  refine J_mono (w_iconst_0 C (jd jdt_Re_init 13 rfl)) ?_
  refine J_bind (fun M5 hM5 => ?_)
  refine J_mono (d_put (Cl := "SluicePit$Reader") (T := jT7) (Y := jY7) (N := 7) C F hM5 (by decide) rfl jin7 jY7_ok jnm7 (by decide) jw_57 rfl (Or.inl rfl) rfl rfl (jd jdt_Re_init 14 rfl)) ?_
  refine J_mono (w_aload_n C (jd jdt_Re_init 15 rfl) rfl) ?_
  refine J_mono (w_iconst_0 C (jd jdt_Re_init 16 rfl)) ?_
  refine J_bind (fun M6 hM6 => ?_)
  refine J_mono (d_put (Cl := "SluicePit$Reader") (T := jT7) (Y := jY7) (N := 7) C F hM6 (by decide) rfl jin7 jY7_ok jnm7 (by decide) jw_61 rfl (Or.inl rfl) rfl rfl (jd jdt_Re_init 17 rfl)) ?_
  refine J_mono (w_aload_n C (jd jdt_Re_init 18 rfl) rfl) ?_
  refine J_mono (w_iconst_0 C (jd jdt_Re_init 19 rfl)) ?_
  refine J_bind (fun M7 hM7 => ?_)
  refine J_mono (d_put (Cl := "SluicePit$Reader") (T := jT7) (Y := jY7) (N := 7) C F hM7 (by decide) rfl jin7 jY7_ok jnm7 (by decide) jw_62 rfl (Or.inl rfl) rfl rfl (jd jdt_Re_init 20 rfl)) ?_
  refine J_mono (w_aload_n C (jd jdt_Re_init 21 rfl) rfl) ?_
  refine J_mono (w_iconst_m1 C (jd jdt_Re_init 22 rfl)) ?_
  refine J_bind (fun M8 hM8 => ?_)
  refine J_mono (d_put (Cl := "SluicePit$Reader") (T := jT7) (Y := jY7) (N := 7) C F hM8 (by decide) rfl jin7 jY7_ok jnm7 (by decide) jw_64 rfl (Or.inl rfl) rfl rfl (jd jdt_Re_init 23 rfl)) ?_
  exact J_some (fun hx => hR M8 hx _ _ (jd jdt_Re_init 24 rfl))
end
theorem CD_Re_init (l : Launch) (G : JG) (F : jF G = true) (a0 : Nat) (a1 : Nat) (M : DM) {M' : DM} (hf : fd_Re_init a0 a1 M = some M') : jMet l jy_Re_init jb_Re_init 2 none 1 1 12 G [.ref a0, .ref a1] M.length (dce G M) none M'.length (dce G M') :=
  j_met jo_Re_init (by decide) (Nat.le_of_ble_eq_true rfl) (fun p e s m args below meth c C hr hm => KD_Re_init C F (Nat.le_refl _) hm (Nat.le_refl _) (Nat.le_refl _) a0 a1 M (fun t => t = M') (fun M' hX pc ls hd => by cases hX; exact w_vret C hr hd) _ hf rfl)
def fd_Pr_init (a0 : Nat) (a1 : Nat) (M : DM) : Option DM := (dPut M a0 3 0 (.ref a1)).bind fun M1 => (dNew M1 100 (List.replicate 60 (.int 0))).bind fun M2 => (dPut M2 a0 3 1 (.ref M1.length)).bind fun M3 => (dPut M3 a0 3 2 (.int 0)).bind fun M4 => some M4
section
variable {p : Program} {l : Launch} {e : Env} {R : Room} {s : State} {m : MethodId} {args : Array Value} {below : List Frame} {meth : Method} {c : Code} {G : JG} {D : Nat} {Q : State → Prop}
set_option maxHeartbeats 4000000 in
set_option maxRecDepth 20000 in
theorem KD_Pr_init (C : jCx p R s m args meth c G jb_Pr_init 2 D "SluicePit$PartReader") (F : jF G = true) (hD : 1 ≤ D) (hname : meth.name = "<init>") (hRc : 1 ≤ R.cells) (hRs : 60 ≤ R.slots) (a0 : Nat) (a1 : Nat) (M : DM) (X : DM → Prop) (hR : ∀ M', X M' → ∀ (pc : Nat) (ls : List (Option Value)), decode jb_Pr_init pc = .ok (.return_, 1) → Wk p l e R s m args below meth c G 2 Q 1 60 M'.length (dce G M') pc ls []) : J X (fd_Pr_init a0 a1 M) (Wk p l e R s m args below meth c G 2 Q 0 0 M.length (dce G M) 0 [some (.ref a0), some (.ref a1)] []) := by
  unfold fd_Pr_init
  refine J_mono (w_aload_n C (jd jdt_Pr_init 0 rfl) rfl) ?_
  refine J_mono (d_objInit C jw_86 rfl (jd jdt_Pr_init 1 rfl)) ?_
  refine J_mono (w_aload_n C (jd jdt_Pr_init 2 rfl) rfl) ?_
  refine J_mono (w_aload_n C (jd jdt_Pr_init 3 rfl) rfl) ?_
  refine J_bind (fun M1 hM1 => ?_)
  refine J_mono (d_put (Cl := "SluicePit$PartReader") (T := jT3) (Y := jY3) (N := 3) C F hM1 (by decide) rfl jin3 jY3_ok jnm3 (by decide) jw_87 rfl (Or.inr ⟨rfl, hname, rfl⟩) rfl rfl (jd jdt_Pr_init 4 rfl)) ?_
  refine J_mono (w_aload_n C (jd jdt_Pr_init 5 rfl) rfl) ?_
  refine J_mono (w_bipush_60 C (jd jdt_Pr_init 6 rfl)) ?_
  refine J_bind (fun M2 hM2 => ?_)
  refine J_mono (d_newa (at_ := .int) C F hM2 jw_45 rfl (Or.inl ⟨rfl, rfl, rfl⟩) (by decide) (by decide) (by decide) (Nat.le_trans (Nat.le_of_ble_eq_true rfl : 1 ≤ 1) hRc) (Nat.le_trans (Nat.le_of_ble_eq_true rfl : 60 ≤ 60) hRs) (jd jdt_Pr_init 7 rfl)) ?_
  refine J_bind (fun M3 hM3 => ?_)
  refine J_mono (d_put (Cl := "SluicePit$PartReader") (T := jT3) (Y := jY3) (N := 3) C F hM3 (by decide) rfl jin3 jY3_ok jnm3 (by decide) jw_88 rfl (Or.inr ⟨rfl, hname, rfl⟩) rfl rfl (jd jdt_Pr_init 8 rfl)) ?_
  refine J_mono (w_aload_n C (jd jdt_Pr_init 9 rfl) rfl) ?_
  refine J_mono (w_iconst_0 C (jd jdt_Pr_init 10 rfl)) ?_
  refine J_bind (fun M4 hM4 => ?_)
  refine J_mono (d_put (Cl := "SluicePit$PartReader") (T := jT3) (Y := jY3) (N := 3) C F hM4 (by decide) rfl jin3 jY3_ok jnm3 (by decide) jw_91 rfl (Or.inl rfl) rfl rfl (jd jdt_Pr_init 11 rfl)) ?_
  exact J_some (fun hx => hR M4 hx _ _ (jd jdt_Pr_init 12 rfl))
end
theorem CD_Pr_init (l : Launch) (G : JG) (F : jF G = true) (a0 : Nat) (a1 : Nat) (M : DM) {M' : DM} (hf : fd_Pr_init a0 a1 M = some M') : jMet l jy_Pr_init jb_Pr_init 2 none 1 1 60 G [.ref a0, .ref a1] M.length (dce G M) none M'.length (dce G M') :=
  j_met jo_Pr_init (by decide) (Nat.le_of_ble_eq_true rfl) (fun p e s m args below meth c C hr hm => KD_Pr_init C F (Nat.le_refl _) hm (Nat.le_refl _) (Nat.le_refl _) a0 a1 M (fun t => t = M') (fun M' hX pc ls hd => by cases hX; exact w_vret C hr hd) _ hf rfl)
def fd_St_init (a0 : Nat) (M : DM) : Option DM := (dNew M 100 (List.replicate 4 (.int 0))).bind fun M1 => (dPut M1 a0 9 0 (.ref M.length)).bind fun M2 => (dNew M2 100 (List.replicate 4 (.int 0))).bind fun M3 => (dPut M3 a0 9 1 (.ref M2.length)).bind fun M4 => (dPut M4 a0 9 2 (.int 0)).bind fun M5 => some M5
section
variable {p : Program} {l : Launch} {e : Env} {R : Room} {s : State} {m : MethodId} {args : Array Value} {below : List Frame} {meth : Method} {c : Code} {G : JG} {D : Nat} {Q : State → Prop}
set_option maxHeartbeats 4000000 in
set_option maxRecDepth 20000 in
theorem KD_St_init (C : jCx p R s m args meth c G jb_St_init 1 D "SluicePit$Stand") (F : jF G = true) (hD : 1 ≤ D) (hname : meth.name = "<init>") (hRc : 2 ≤ R.cells) (hRs : 8 ≤ R.slots) (a0 : Nat) (M : DM) (X : DM → Prop) (hR : ∀ M', X M' → ∀ (pc : Nat) (ls : List (Option Value)), decode jb_St_init pc = .ok (.return_, 1) → Wk p l e R s m args below meth c G 1 Q 2 8 M'.length (dce G M') pc ls []) : J X (fd_St_init a0 M) (Wk p l e R s m args below meth c G 1 Q 0 0 M.length (dce G M) 0 [some (.ref a0)] []) := by
  unfold fd_St_init
  refine J_mono (w_aload_n C (jd jdt_St_init 0 rfl) rfl) ?_
  refine J_mono (d_objInit C jw_114 rfl (jd jdt_St_init 1 rfl)) ?_
  refine J_mono (w_aload_n C (jd jdt_St_init 2 rfl) rfl) ?_
  refine J_mono (w_iconst_4 C (jd jdt_St_init 3 rfl)) ?_
  refine J_bind (fun M1 hM1 => ?_)
  refine J_mono (d_newa (at_ := .int) C F hM1 jw_45 rfl (Or.inl ⟨rfl, rfl, rfl⟩) (by decide) (by decide) (by decide) (Nat.le_trans (Nat.le_of_ble_eq_true rfl : 1 ≤ 2) hRc) (Nat.le_trans (Nat.le_of_ble_eq_true rfl : 4 ≤ 8) hRs) (jd jdt_St_init 4 rfl)) ?_
  refine J_bind (fun M2 hM2 => ?_)
  refine J_mono (d_put (Cl := "SluicePit$Stand") (T := jT9) (Y := jY9) (N := 3) C F hM2 (by decide) rfl jin9 jY9_ok jnm9 (by decide) jw_115 rfl (Or.inr ⟨rfl, hname, rfl⟩) rfl rfl (jd jdt_St_init 5 rfl)) ?_
  refine J_mono (w_aload_n C (jd jdt_St_init 6 rfl) rfl) ?_
  refine J_mono (w_iconst_4 C (jd jdt_St_init 7 rfl)) ?_
  refine J_bind (fun M3 hM3 => ?_)
  refine J_mono (d_newa (at_ := .int) C F hM3 jw_45 rfl (Or.inl ⟨rfl, rfl, rfl⟩) (by decide) (by decide) (by decide) (Nat.le_trans (Nat.le_of_ble_eq_true rfl : 2 ≤ 2) hRc) (Nat.le_trans (Nat.le_of_ble_eq_true rfl : 8 ≤ 8) hRs) (jd jdt_St_init 8 rfl)) ?_
  refine J_bind (fun M4 hM4 => ?_)
  refine J_mono (d_put (Cl := "SluicePit$Stand") (T := jT9) (Y := jY9) (N := 3) C F hM4 (by decide) rfl jin9 jY9_ok jnm9 (by decide) jw_116 rfl (Or.inr ⟨rfl, hname, rfl⟩) rfl rfl (jd jdt_St_init 9 rfl)) ?_
  refine J_mono (w_aload_n C (jd jdt_St_init 10 rfl) rfl) ?_
  refine J_mono (w_iconst_0 C (jd jdt_St_init 11 rfl)) ?_
  refine J_bind (fun M5 hM5 => ?_)
  refine J_mono (d_put (Cl := "SluicePit$Stand") (T := jT9) (Y := jY9) (N := 3) C F hM5 (by decide) rfl jin9 jY9_ok jnm9 (by decide) jw_117 rfl (Or.inl rfl) rfl rfl (jd jdt_St_init 12 rfl)) ?_
  exact J_some (fun hx => hR M5 hx _ _ (jd jdt_St_init 13 rfl))
end
theorem CD_St_init (l : Launch) (G : JG) (F : jF G = true) (a0 : Nat) (M : DM) {M' : DM} (hf : fd_St_init a0 M = some M') : jMet l jy_St_init jb_St_init 1 none 1 2 8 G [.ref a0] M.length (dce G M) none M'.length (dce G M') :=
  j_met jo_St_init (by decide) (Nat.le_of_ble_eq_true rfl) (fun p e s m args below meth c C hr hm => KD_St_init C F (Nat.le_refl _) hm (Nat.le_refl _) (Nat.le_refl _) a0 M (fun t => t = M') (fun M' hX pc ls hd => by cases hX; exact w_vret C hr hd) _ hf rfl)
def fd_Pa_init (a0 : Nat) (M : DM) : Option DM := (dRows M 8 60).bind fun M1 => (dPut M1 a0 4 0 (.ref M.length)).bind fun M2 => (dNew M2 100 (List.replicate 8 (.int 0))).bind fun M3 => (dPut M3 a0 4 1 (.ref M2.length)).bind fun M4 => some M4
section
variable {p : Program} {l : Launch} {e : Env} {R : Room} {s : State} {m : MethodId} {args : Array Value} {below : List Frame} {meth : Method} {c : Code} {G : JG} {D : Nat} {Q : State → Prop}
set_option maxHeartbeats 4000000 in
set_option maxRecDepth 20000 in
theorem KD_Pa_init (C : jCx p R s m args meth c G jb_Pa_init 1 D "SluicePit$Parts") (F : jF G = true) (hD : 1 ≤ D) (hname : meth.name = "<init>") (hRc : 10 ≤ R.cells) (hRs : 496 ≤ R.slots) (a0 : Nat) (M : DM) (X : DM → Prop) (hR : ∀ M', X M' → ∀ (pc : Nat) (ls : List (Option Value)), decode jb_Pa_init pc = .ok (.return_, 1) → Wk p l e R s m args below meth c G 1 Q 10 496 M'.length (dce G M') pc ls []) : J X (fd_Pa_init a0 M) (Wk p l e R s m args below meth c G 1 Q 0 0 M.length (dce G M) 0 [some (.ref a0)] []) := by
  unfold fd_Pa_init
  refine J_mono (w_aload_n C (jd jdt_Pa_init 0 rfl) rfl) ?_
  refine J_mono (d_objInit C jw_134 rfl (jd jdt_Pa_init 1 rfl)) ?_
  refine J_mono (w_aload_n C (jd jdt_Pa_init 2 rfl) rfl) ?_
  refine J_mono (w_bipush_8 C (jd jdt_Pa_init 3 rfl)) ?_
  refine J_mono (w_bipush_60 C (jd jdt_Pa_init 4 rfl)) ?_
  refine J_bind (fun M1 hM1 => ?_)
  refine J_mono (d_rows C F hM1 jw_135 (by decide) (by decide) (by decide) (by decide) (by decide) (by decide) (Nat.le_trans (Nat.le_of_ble_eq_true rfl : 9 ≤ 10) hRc) (Nat.le_trans (Nat.le_of_ble_eq_true rfl : 488 ≤ 496) hRs) (jd jdt_Pa_init 5 rfl)) ?_
  refine J_bind (fun M2 hM2 => ?_)
  refine J_mono (d_put (Cl := "SluicePit$Parts") (T := jT4) (Y := jY4) (N := 2) C F hM2 (by decide) rfl jin4 jY4_ok jnm4 (by decide) jw_136 rfl (Or.inr ⟨rfl, hname, rfl⟩) rfl rfl (jd jdt_Pa_init 6 rfl)) ?_
  refine J_mono (w_aload_n C (jd jdt_Pa_init 7 rfl) rfl) ?_
  refine J_mono (w_bipush_8 C (jd jdt_Pa_init 8 rfl)) ?_
  refine J_bind (fun M3 hM3 => ?_)
  refine J_mono (d_newa (at_ := .int) C F hM3 jw_45 rfl (Or.inl ⟨rfl, rfl, rfl⟩) (by decide) (by decide) (by decide) (Nat.le_trans (Nat.le_of_ble_eq_true rfl : 10 ≤ 10) hRc) (Nat.le_trans (Nat.le_of_ble_eq_true rfl : 496 ≤ 496) hRs) (jd jdt_Pa_init 9 rfl)) ?_
  refine J_bind (fun M4 hM4 => ?_)
  refine J_mono (d_put (Cl := "SluicePit$Parts") (T := jT4) (Y := jY4) (N := 2) C F hM4 (by decide) rfl jin4 jY4_ok jnm4 (by decide) jw_137 rfl (Or.inr ⟨rfl, hname, rfl⟩) rfl rfl (jd jdt_Pa_init 10 rfl)) ?_
  exact J_some (fun hx => hR M4 hx _ _ (jd jdt_Pa_init 11 rfl))
end
theorem CD_Pa_init (l : Launch) (G : JG) (F : jF G = true) (a0 : Nat) (M : DM) {M' : DM} (hf : fd_Pa_init a0 M = some M') : jMet l jy_Pa_init jb_Pa_init 1 none 1 10 496 G [.ref a0] M.length (dce G M) none M'.length (dce G M') :=
  j_met jo_Pa_init (by decide) (Nat.le_of_ble_eq_true rfl) (fun p e s m args below meth c C hr hm => KD_Pa_init C F (Nat.le_refl _) hm (Nat.le_refl _) (Nat.le_refl _) a0 M (fun t => t = M') (fun M' hX pc ls hd => by cases hX; exact w_vret C hr hd) _ hf rfl)
def fd_Op_clear (a0 : Nat) (M : DM) : Option DM := (dPut M a0 1 0 (.int 0)).bind fun M1 => (dPut M1 a0 1 1 (.int 0)).bind fun M2 => (dPut M2 a0 1 2 (.int 0)).bind fun M3 => (dPut M3 a0 1 3 (.int 99)).bind fun M4 => (dPut M4 a0 1 4 (.int 0)).bind fun M5 => (dGetR M5 a0 1 10).bind fun r6 => (dPut M5 r6 9 2 (.int 0)).bind fun M7 => (dGetR M7 a0 1 11).bind fun r8 => (dPut M7 r8 9 2 (.int 0)).bind fun M9 => (dGetR M9 a0 1 12).bind fun r10 => (dPut M9 r10 9 2 (.int 0)).bind fun M11 => (dGetR M11 a0 1 5).bind fun r12 => (fd_JA_fill r12 0 M11).bind fun M13 => (dGetR M13 a0 1 6).bind fun r14 => (fd_JA_fill r14 0 M13).bind fun M15 => (dGetR M15 a0 1 7).bind fun r16 => (fd_JA_fill r16 0 M15).bind fun M17 => some M17
section
variable {p : Program} {l : Launch} {e : Env} {R : Room} {s : State} {m : MethodId} {args : Array Value} {below : List Frame} {meth : Method} {c : Code} {G : JG} {D : Nat} {Q : State → Prop}
set_option maxHeartbeats 4000000 in
set_option maxRecDepth 20000 in
theorem KD_Op_clear (C : jCx p R s m args meth c G jb_Op_clear 1 D "SluicePit$Opera") (F : jF G = true) (hD : 2 ≤ D) (hRc : 0 ≤ R.cells) (hRs : 0 ≤ R.slots) (a0 : Nat) (M : DM) (X : DM → Prop) (hR : ∀ M', X M' → ∀ (pc : Nat) (ls : List (Option Value)), decode jb_Op_clear pc = .ok (.return_, 1) → Wk p l e R s m args below meth c G 1 Q 0 0 M'.length (dce G M') pc ls []) : J X (fd_Op_clear a0 M) (Wk p l e R s m args below meth c G 1 Q 0 0 M.length (dce G M) 0 [some (.ref a0)] []) := by
  unfold fd_Op_clear
  refine J_mono (w_aload_n C (jd jdt_Op_clear 0 rfl) rfl) ?_
  refine J_mono (w_iconst_0 C (jd jdt_Op_clear 1 rfl)) ?_
  refine J_bind (fun M1 hM1 => ?_)
  refine J_mono (d_put (Cl := "SluicePit$Opera") (T := jT1) (Y := jY1) (N := 14) C F hM1 (by decide) rfl jin1 jY1_ok jnm1 (by decide) jw_150 rfl (Or.inl rfl) rfl rfl (jd jdt_Op_clear 2 rfl)) ?_
  refine J_mono (w_aload_n C (jd jdt_Op_clear 3 rfl) rfl) ?_
  refine J_mono (w_iconst_0 C (jd jdt_Op_clear 4 rfl)) ?_
  refine J_bind (fun M2 hM2 => ?_)
  refine J_mono (d_put (Cl := "SluicePit$Opera") (T := jT1) (Y := jY1) (N := 14) C F hM2 (by decide) rfl jin1 jY1_ok jnm1 (by decide) jw_153 rfl (Or.inl rfl) rfl rfl (jd jdt_Op_clear 5 rfl)) ?_
  refine J_mono (w_aload_n C (jd jdt_Op_clear 6 rfl) rfl) ?_
  refine J_mono (w_iconst_0 C (jd jdt_Op_clear 7 rfl)) ?_
  refine J_bind (fun M3 hM3 => ?_)
  refine J_mono (d_put (Cl := "SluicePit$Opera") (T := jT1) (Y := jY1) (N := 14) C F hM3 (by decide) rfl jin1 jY1_ok jnm1 (by decide) jw_159 rfl (Or.inl rfl) rfl rfl (jd jdt_Op_clear 8 rfl)) ?_
  refine J_mono (w_aload_n C (jd jdt_Op_clear 9 rfl) rfl) ?_
  refine J_mono (w_bipush_99 C (jd jdt_Op_clear 10 rfl)) ?_
  refine J_bind (fun M4 hM4 => ?_)
  refine J_mono (d_put (Cl := "SluicePit$Opera") (T := jT1) (Y := jY1) (N := 14) C F hM4 (by decide) rfl jin1 jY1_ok jnm1 (by decide) jw_163 rfl (Or.inl rfl) rfl rfl (jd jdt_Op_clear 11 rfl)) ?_
  refine J_mono (w_aload_n C (jd jdt_Op_clear 12 rfl) rfl) ?_
  refine J_mono (w_iconst_0 C (jd jdt_Op_clear 13 rfl)) ?_
  refine J_bind (fun M5 hM5 => ?_)
  refine J_mono (d_put (Cl := "SluicePit$Opera") (T := jT1) (Y := jY1) (N := 14) C F hM5 (by decide) rfl jin1 jY1_ok jnm1 (by decide) jw_167 rfl (Or.inl rfl) rfl rfl (jd jdt_Op_clear 14 rfl)) ?_
  refine J_mono (w_aload_n C (jd jdt_Op_clear 15 rfl) rfl) ?_
  refine J_bind (fun r6 hr6 => ?_)
  refine J_mono (d_getR (Cl := "SluicePit$Opera") (T := jT1) (N := 14) C hr6 (by decide) rfl jin1 (by decide) jw_190 rfl (jd jdt_Op_clear 16 rfl)) ?_
  refine J_mono (w_iconst_0 C (jd jdt_Op_clear 17 rfl)) ?_
  refine J_bind (fun M7 hM7 => ?_)
  refine J_mono (d_put (Cl := "SluicePit$Stand") (T := jT9) (Y := jY9) (N := 3) C F hM7 (by decide) rfl jin9 jY9_ok jnm9 (by decide) jw_118 rfl (Or.inl rfl) rfl rfl (jd jdt_Op_clear 18 rfl)) ?_
  refine J_mono (w_aload_n C (jd jdt_Op_clear 19 rfl) rfl) ?_
  refine J_bind (fun r8 hr8 => ?_)
  refine J_mono (d_getR (Cl := "SluicePit$Opera") (T := jT1) (N := 14) C hr8 (by decide) rfl jin1 (by decide) jw_193 rfl (jd jdt_Op_clear 20 rfl)) ?_
  refine J_mono (w_iconst_0 C (jd jdt_Op_clear 21 rfl)) ?_
  refine J_bind (fun M9 hM9 => ?_)
  refine J_mono (d_put (Cl := "SluicePit$Stand") (T := jT9) (Y := jY9) (N := 3) C F hM9 (by decide) rfl jin9 jY9_ok jnm9 (by decide) jw_118 rfl (Or.inl rfl) rfl rfl (jd jdt_Op_clear 22 rfl)) ?_
  refine J_mono (w_aload_n C (jd jdt_Op_clear 23 rfl) rfl) ?_
  refine J_bind (fun r10 hr10 => ?_)
  refine J_mono (d_getR (Cl := "SluicePit$Opera") (T := jT1) (N := 14) C hr10 (by decide) rfl jin1 (by decide) jw_199 rfl (jd jdt_Op_clear 24 rfl)) ?_
  refine J_mono (w_iconst_0 C (jd jdt_Op_clear 25 rfl)) ?_
  refine J_bind (fun M11 hM11 => ?_)
  refine J_mono (d_put (Cl := "SluicePit$Stand") (T := jT9) (Y := jY9) (N := 3) C F hM11 (by decide) rfl jin9 jY9_ok jnm9 (by decide) jw_118 rfl (Or.inl rfl) rfl rfl (jd jdt_Op_clear 26 rfl)) ?_
  refine J_mono (w_aload_n C (jd jdt_Op_clear 27 rfl) rfl) ?_
  refine J_bind (fun r12 hr12 => ?_)
  refine J_mono (d_getR (Cl := "SluicePit$Opera") (T := jT1) (N := 14) C hr12 (by decide) rfl jin1 (by decide) jw_171 rfl (jd jdt_Op_clear 28 rfl)) ?_
  refine J_mono (w_iconst_0 C (jd jdt_Op_clear 29 rfl)) ?_
  refine J_bind (fun M13 hM13 => ?_)
  refine J_mono (w_callS (As := [.ref r12, .int 0]) (r := none) C jo_JA_fill (CD_JA_fill l G F r12 0 M11 hM13) jw_147 jw_148 (Nat.le_trans (Nat.le_of_ble_eq_true rfl : 1 + 1 ≤ 2) hD) (by decide) rfl (Nat.le_of_ble_eq_true rfl) (jd jdt_Op_clear 30 rfl) ⟨Nat.le_trans (Nat.le_of_ble_eq_true rfl : 0 ≤ 0) hRc, Nat.le_trans (Nat.le_of_ble_eq_true rfl : 0 ≤ 0) hRs⟩) ?_
  refine J_mono (w_aload_n C (jd jdt_Op_clear 31 rfl) rfl) ?_
  refine J_bind (fun r14 hr14 => ?_)
  refine J_mono (d_getR (Cl := "SluicePit$Opera") (T := jT1) (N := 14) C hr14 (by decide) rfl jin1 (by decide) jw_175 rfl (jd jdt_Op_clear 32 rfl)) ?_
  refine J_mono (w_iconst_0 C (jd jdt_Op_clear 33 rfl)) ?_
  refine J_bind (fun M15 hM15 => ?_)
  refine J_mono (w_callS (As := [.ref r14, .int 0]) (r := none) C jo_JA_fill (CD_JA_fill l G F r14 0 M13 hM15) jw_147 jw_148 (Nat.le_trans (Nat.le_of_ble_eq_true rfl : 1 + 1 ≤ 2) hD) (by decide) rfl (Nat.le_of_ble_eq_true rfl) (jd jdt_Op_clear 34 rfl) ⟨Nat.le_trans (Nat.le_of_ble_eq_true rfl : 0 ≤ 0) hRc, Nat.le_trans (Nat.le_of_ble_eq_true rfl : 0 ≤ 0) hRs⟩) ?_
  refine J_mono (w_aload_n C (jd jdt_Op_clear 35 rfl) rfl) ?_
  refine J_bind (fun r16 hr16 => ?_)
  refine J_mono (d_getR (Cl := "SluicePit$Opera") (T := jT1) (N := 14) C hr16 (by decide) rfl jin1 (by decide) jw_179 rfl (jd jdt_Op_clear 36 rfl)) ?_
  refine J_mono (w_iconst_0 C (jd jdt_Op_clear 37 rfl)) ?_
  refine J_bind (fun M17 hM17 => ?_)
  refine J_mono (w_callS (As := [.ref r16, .int 0]) (r := none) C jo_JA_fill (CD_JA_fill l G F r16 0 M15 hM17) jw_147 jw_148 (Nat.le_trans (Nat.le_of_ble_eq_true rfl : 1 + 1 ≤ 2) hD) (by decide) rfl (Nat.le_of_ble_eq_true rfl) (jd jdt_Op_clear 38 rfl) ⟨Nat.le_trans (Nat.le_of_ble_eq_true rfl : 0 ≤ 0) hRc, Nat.le_trans (Nat.le_of_ble_eq_true rfl : 0 ≤ 0) hRs⟩) ?_
  exact J_some (fun hx => hR M17 hx _ _ (jd jdt_Op_clear 39 rfl))
end
theorem CD_Op_clear (l : Launch) (G : JG) (F : jF G = true) (a0 : Nat) (M : DM) {M' : DM} (hf : fd_Op_clear a0 M = some M') : jMet l jy_Op_clear jb_Op_clear 1 none 2 0 0 G [.ref a0] M.length (dce G M) none M'.length (dce G M') :=
  j_met jo_Op_clear (by decide) (Nat.le_of_ble_eq_true rfl) (fun p e s m args below meth c C hr hm => KD_Op_clear C F (Nat.le_refl _) (Nat.le_refl _) (Nat.le_refl _) a0 M (fun t => t = M') (fun M' hX pc ls hd => by cases hX; exact w_vret C hr hd) _ hf rfl)
def fd_Op_init (a0 : Nat) (M : DM) : Option DM := (dNew M 100 (List.replicate 12 (.int 0))).bind fun M1 => (dPut M1 a0 1 5 (.ref M.length)).bind fun M2 => (dNew M2 100 (List.replicate 12 (.int 0))).bind fun M3 => (dPut M3 a0 1 6 (.ref M2.length)).bind fun M4 => (dNew M4 100 (List.replicate 12 (.int 0))).bind fun M5 => (dPut M5 a0 1 7 (.ref M4.length)).bind fun M6 => (dNew M6 100 (List.replicate 8 (.int 0))).bind fun M7 => (dPut M7 a0 1 8 (.ref M6.length)).bind fun M8 => (dRows M8 24 6).bind fun M9 => (dPut M9 a0 1 9 (.ref M8.length)).bind fun M10 => (dNew M10 9 [.null, .null, .int 0]).bind fun M11 => (fd_St_init M10.length M11).bind fun M12 => (dPut M12 a0 1 10 (.ref M10.length)).bind fun M13 => (dNew M13 9 [.null, .null, .int 0]).bind fun M14 => (fd_St_init M13.length M14).bind fun M15 => (dPut M15 a0 1 11 (.ref M13.length)).bind fun M16 => (dNew M16 9 [.null, .null, .int 0]).bind fun M17 => (fd_St_init M16.length M17).bind fun M18 => (dPut M18 a0 1 12 (.ref M16.length)).bind fun M19 => (dNew M19 4 [.null, .null]).bind fun M20 => (fd_Pa_init M19.length M20).bind fun M21 => (dPut M21 a0 1 13 (.ref M19.length)).bind fun M22 => (dChk M22 a0 1).bind fun u24 => (fd_Op_clear a0 M22).bind fun M23 => some M23
section
variable {p : Program} {l : Launch} {e : Env} {R : Room} {s : State} {m : MethodId} {args : Array Value} {below : List Frame} {meth : Method} {c : Code} {G : JG} {D : Nat} {Q : State → Prop}
set_option maxHeartbeats 4000000 in
set_option maxRecDepth 20000 in
theorem KD_Op_init (C : jCx p R s m args meth c G jb_Op_init 1 D "SluicePit$Opera") (F : jF G = true) (hD : 3 ≤ D) (hname : meth.name = "<init>") (hRc : 49 ≤ R.cells) (hRs : 743 ≤ R.slots) (a0 : Nat) (M : DM) (X : DM → Prop) (hR : ∀ M', X M' → ∀ (pc : Nat) (ls : List (Option Value)), decode jb_Op_init pc = .ok (.return_, 1) → Wk p l e R s m args below meth c G 1 Q 49 743 M'.length (dce G M') pc ls []) : J X (fd_Op_init a0 M) (Wk p l e R s m args below meth c G 1 Q 0 0 M.length (dce G M) 0 [some (.ref a0)] []) := by
  unfold fd_Op_init
  refine J_mono (w_aload_n C (jd jdt_Op_init 0 rfl) rfl) ?_
  refine J_mono (d_objInit C jw_106 rfl (jd jdt_Op_init 1 rfl)) ?_
  refine J_mono (w_aload_n C (jd jdt_Op_init 2 rfl) rfl) ?_
  refine J_mono (w_bipush_12 C (jd jdt_Op_init 3 rfl)) ?_
  refine J_bind (fun M1 hM1 => ?_)
  refine J_mono (d_newa (at_ := .int) C F hM1 jw_45 rfl (Or.inl ⟨rfl, rfl, rfl⟩) (by decide) (by decide) (by decide) (Nat.le_trans (Nat.le_of_ble_eq_true rfl : 1 ≤ 49) hRc) (Nat.le_trans (Nat.le_of_ble_eq_true rfl : 12 ≤ 743) hRs) (jd jdt_Op_init 4 rfl)) ?_
  refine J_bind (fun M2 hM2 => ?_)
  refine J_mono (d_put (Cl := "SluicePit$Opera") (T := jT1) (Y := jY1) (N := 14) C F hM2 (by decide) rfl jin1 jY1_ok jnm1 (by decide) jw_171 rfl (Or.inr ⟨rfl, hname, rfl⟩) rfl rfl (jd jdt_Op_init 5 rfl)) ?_
  refine J_mono (w_aload_n C (jd jdt_Op_init 6 rfl) rfl) ?_
  refine J_mono (w_bipush_12 C (jd jdt_Op_init 7 rfl)) ?_
  refine J_bind (fun M3 hM3 => ?_)
  refine J_mono (d_newa (at_ := .int) C F hM3 jw_45 rfl (Or.inl ⟨rfl, rfl, rfl⟩) (by decide) (by decide) (by decide) (Nat.le_trans (Nat.le_of_ble_eq_true rfl : 2 ≤ 49) hRc) (Nat.le_trans (Nat.le_of_ble_eq_true rfl : 24 ≤ 743) hRs) (jd jdt_Op_init 8 rfl)) ?_
  refine J_bind (fun M4 hM4 => ?_)
  refine J_mono (d_put (Cl := "SluicePit$Opera") (T := jT1) (Y := jY1) (N := 14) C F hM4 (by decide) rfl jin1 jY1_ok jnm1 (by decide) jw_175 rfl (Or.inr ⟨rfl, hname, rfl⟩) rfl rfl (jd jdt_Op_init 9 rfl)) ?_
  refine J_mono (w_aload_n C (jd jdt_Op_init 10 rfl) rfl) ?_
  refine J_mono (w_bipush_12 C (jd jdt_Op_init 11 rfl)) ?_
  refine J_bind (fun M5 hM5 => ?_)
  refine J_mono (d_newa (at_ := .int) C F hM5 jw_45 rfl (Or.inl ⟨rfl, rfl, rfl⟩) (by decide) (by decide) (by decide) (Nat.le_trans (Nat.le_of_ble_eq_true rfl : 3 ≤ 49) hRc) (Nat.le_trans (Nat.le_of_ble_eq_true rfl : 36 ≤ 743) hRs) (jd jdt_Op_init 12 rfl)) ?_
  refine J_bind (fun M6 hM6 => ?_)
  refine J_mono (d_put (Cl := "SluicePit$Opera") (T := jT1) (Y := jY1) (N := 14) C F hM6 (by decide) rfl jin1 jY1_ok jnm1 (by decide) jw_179 rfl (Or.inr ⟨rfl, hname, rfl⟩) rfl rfl (jd jdt_Op_init 13 rfl)) ?_
  refine J_mono (w_aload_n C (jd jdt_Op_init 14 rfl) rfl) ?_
  refine J_mono (w_bipush_8 C (jd jdt_Op_init 15 rfl)) ?_
  refine J_bind (fun M7 hM7 => ?_)
  refine J_mono (d_newa (at_ := .int) C F hM7 jw_45 rfl (Or.inl ⟨rfl, rfl, rfl⟩) (by decide) (by decide) (by decide) (Nat.le_trans (Nat.le_of_ble_eq_true rfl : 4 ≤ 49) hRc) (Nat.le_trans (Nat.le_of_ble_eq_true rfl : 44 ≤ 743) hRs) (jd jdt_Op_init 16 rfl)) ?_
  refine J_bind (fun M8 hM8 => ?_)
  refine J_mono (d_put (Cl := "SluicePit$Opera") (T := jT1) (Y := jY1) (N := 14) C F hM8 (by decide) rfl jin1 jY1_ok jnm1 (by decide) jw_183 rfl (Or.inr ⟨rfl, hname, rfl⟩) rfl rfl (jd jdt_Op_init 17 rfl)) ?_
  refine J_mono (w_aload_n C (jd jdt_Op_init 18 rfl) rfl) ?_
  refine J_mono (w_bipush_24 C (jd jdt_Op_init 19 rfl)) ?_
  refine J_mono (w_bipush_6 C (jd jdt_Op_init 20 rfl)) ?_
  refine J_bind (fun M9 hM9 => ?_)
  refine J_mono (d_rows C F hM9 jw_107 (by decide) (by decide) (by decide) (by decide) (by decide) (by decide) (Nat.le_trans (Nat.le_of_ble_eq_true rfl : 29 ≤ 49) hRc) (Nat.le_trans (Nat.le_of_ble_eq_true rfl : 212 ≤ 743) hRs) (jd jdt_Op_init 21 rfl)) ?_
  refine J_bind (fun M10 hM10 => ?_)
  refine J_mono (d_put (Cl := "SluicePit$Opera") (T := jT1) (Y := jY1) (N := 14) C F hM10 (by decide) rfl jin1 jY1_ok jnm1 (by decide) jw_187 rfl (Or.inr ⟨rfl, hname, rfl⟩) rfl rfl (jd jdt_Op_init 22 rfl)) ?_
  refine J_mono (w_aload_n C (jd jdt_Op_init 23 rfl) rfl) ?_
  refine J_bind (fun M11 hM11 => ?_)
  refine J_mono (d_new (Cl := "SluicePit$Stand") (T := jT9) (N := 3) C F hM11 (by decide) rfl jin9 jY9_ok jw_109 jw_110 jw_6 (dnew_def (Nat.le_of_ble_eq_true rfl) jdf_9) (Nat.le_trans (Nat.le_of_ble_eq_true rfl : 30 ≤ 49) hRc) (Nat.le_trans (Nat.le_of_ble_eq_true rfl : 215 ≤ 743) hRs) (jd jdt_Op_init 24 rfl)) ?_
  refine J_mono (w_dup_r C (jd jdt_Op_init 25 rfl)) ?_
  refine J_bind (fun M12 hM12 => ?_)
  refine J_mono (w_callI (As := []) C jo_St_init (CD_St_init l G F M10.length  M11 hM12) jw_111 jw_112 rfl (Nat.le_trans (Nat.le_of_ble_eq_true rfl : 1 + 1 ≤ 3) hD) (by decide) rfl (Nat.le_of_ble_eq_true rfl) (jd jdt_Op_init 26 rfl) ⟨Nat.le_trans (Nat.le_of_ble_eq_true rfl : 32 ≤ 49) hRc, Nat.le_trans (Nat.le_of_ble_eq_true rfl : 223 ≤ 743) hRs⟩) ?_
  refine J_bind (fun M13 hM13 => ?_)
  refine J_mono (d_put (Cl := "SluicePit$Opera") (T := jT1) (Y := jY1) (N := 14) C F hM13 (by decide) rfl jin1 jY1_ok jnm1 (by decide) jw_190 rfl (Or.inr ⟨rfl, hname, rfl⟩) rfl rfl (jd jdt_Op_init 27 rfl)) ?_
  refine J_mono (w_aload_n C (jd jdt_Op_init 28 rfl) rfl) ?_
  refine J_bind (fun M14 hM14 => ?_)
  refine J_mono (d_new (Cl := "SluicePit$Stand") (T := jT9) (N := 3) C F hM14 (by decide) rfl jin9 jY9_ok jw_109 jw_110 jw_6 (dnew_def (Nat.le_of_ble_eq_true rfl) jdf_9) (Nat.le_trans (Nat.le_of_ble_eq_true rfl : 33 ≤ 49) hRc) (Nat.le_trans (Nat.le_of_ble_eq_true rfl : 226 ≤ 743) hRs) (jd jdt_Op_init 29 rfl)) ?_
  refine J_mono (w_dup_r C (jd jdt_Op_init 30 rfl)) ?_
  refine J_bind (fun M15 hM15 => ?_)
  refine J_mono (w_callI (As := []) C jo_St_init (CD_St_init l G F M13.length  M14 hM15) jw_111 jw_112 rfl (Nat.le_trans (Nat.le_of_ble_eq_true rfl : 1 + 1 ≤ 3) hD) (by decide) rfl (Nat.le_of_ble_eq_true rfl) (jd jdt_Op_init 31 rfl) ⟨Nat.le_trans (Nat.le_of_ble_eq_true rfl : 35 ≤ 49) hRc, Nat.le_trans (Nat.le_of_ble_eq_true rfl : 234 ≤ 743) hRs⟩) ?_
  refine J_bind (fun M16 hM16 => ?_)
  refine J_mono (d_put (Cl := "SluicePit$Opera") (T := jT1) (Y := jY1) (N := 14) C F hM16 (by decide) rfl jin1 jY1_ok jnm1 (by decide) jw_193 rfl (Or.inr ⟨rfl, hname, rfl⟩) rfl rfl (jd jdt_Op_init 32 rfl)) ?_
  refine J_mono (w_aload_n C (jd jdt_Op_init 33 rfl) rfl) ?_
  refine J_bind (fun M17 hM17 => ?_)
  refine J_mono (d_new (Cl := "SluicePit$Stand") (T := jT9) (N := 3) C F hM17 (by decide) rfl jin9 jY9_ok jw_109 jw_110 jw_6 (dnew_def (Nat.le_of_ble_eq_true rfl) jdf_9) (Nat.le_trans (Nat.le_of_ble_eq_true rfl : 36 ≤ 49) hRc) (Nat.le_trans (Nat.le_of_ble_eq_true rfl : 237 ≤ 743) hRs) (jd jdt_Op_init 34 rfl)) ?_
  refine J_mono (w_dup_r C (jd jdt_Op_init 35 rfl)) ?_
  refine J_bind (fun M18 hM18 => ?_)
  refine J_mono (w_callI (As := []) C jo_St_init (CD_St_init l G F M16.length  M17 hM18) jw_111 jw_112 rfl (Nat.le_trans (Nat.le_of_ble_eq_true rfl : 1 + 1 ≤ 3) hD) (by decide) rfl (Nat.le_of_ble_eq_true rfl) (jd jdt_Op_init 36 rfl) ⟨Nat.le_trans (Nat.le_of_ble_eq_true rfl : 38 ≤ 49) hRc, Nat.le_trans (Nat.le_of_ble_eq_true rfl : 245 ≤ 743) hRs⟩) ?_
  refine J_bind (fun M19 hM19 => ?_)
  refine J_mono (d_put (Cl := "SluicePit$Opera") (T := jT1) (Y := jY1) (N := 14) C F hM19 (by decide) rfl jin1 jY1_ok jnm1 (by decide) jw_199 rfl (Or.inr ⟨rfl, hname, rfl⟩) rfl rfl (jd jdt_Op_init 37 rfl)) ?_
  refine J_mono (w_aload_n C (jd jdt_Op_init 38 rfl) rfl) ?_
  refine J_bind (fun M20 hM20 => ?_)
  refine J_mono (d_new (Cl := "SluicePit$Parts") (T := jT4) (N := 2) C F hM20 (by decide) rfl jin4 jY4_ok jw_129 jw_130 jw_7 (dnew_def (Nat.le_of_ble_eq_true rfl) jdf_4) (Nat.le_trans (Nat.le_of_ble_eq_true rfl : 39 ≤ 49) hRc) (Nat.le_trans (Nat.le_of_ble_eq_true rfl : 247 ≤ 743) hRs) (jd jdt_Op_init 39 rfl)) ?_
  refine J_mono (w_dup_r C (jd jdt_Op_init 40 rfl)) ?_
  refine J_bind (fun M21 hM21 => ?_)
  refine J_mono (w_callI (As := []) C jo_Pa_init (CD_Pa_init l G F M19.length  M20 hM21) jw_131 jw_132 rfl (Nat.le_trans (Nat.le_of_ble_eq_true rfl : 1 + 1 ≤ 3) hD) (by decide) rfl (Nat.le_of_ble_eq_true rfl) (jd jdt_Op_init 41 rfl) ⟨Nat.le_trans (Nat.le_of_ble_eq_true rfl : 49 ≤ 49) hRc, Nat.le_trans (Nat.le_of_ble_eq_true rfl : 743 ≤ 743) hRs⟩) ?_
  refine J_bind (fun M22 hM22 => ?_)
  refine J_mono (d_put (Cl := "SluicePit$Opera") (T := jT1) (Y := jY1) (N := 14) C F hM22 (by decide) rfl jin1 jY1_ok jnm1 (by decide) jw_203 rfl (Or.inr ⟨rfl, hname, rfl⟩) rfl rfl (jd jdt_Op_init 42 rfl)) ?_
  refine J_mono (w_aload_n C (jd jdt_Op_init 43 rfl) rfl) ?_
  refine J_bind (fun u24 hu24 => ?_)
  refine J_bind (fun M23 hM23 => ?_)
  refine J_mono (w_callV (As := []) (T := jT1) (N := 14) (r := none) C jo_Op_clear (CD_Op_clear l G F a0  M22 hM23) (dget (dChk_in hu24) (Or.inl (by decide))).2 (dce_o (dChk_in hu24) (by decide)) rfl jw_143 jw_145 jws_Op_clear (Nat.le_trans (Nat.le_of_ble_eq_true rfl : 2 + 1 ≤ 3) hD) (by decide) rfl (Nat.le_of_ble_eq_true rfl) (jd jdt_Op_init 44 rfl) ⟨Nat.le_trans (Nat.le_of_ble_eq_true rfl : 49 ≤ 49) hRc, Nat.le_trans (Nat.le_of_ble_eq_true rfl : 743 ≤ 743) hRs⟩) ?_
  exact J_some (fun hx => hR M23 hx _ _ (jd jdt_Op_init 45 rfl))
end
theorem CD_Op_init (l : Launch) (G : JG) (F : jF G = true) (a0 : Nat) (M : DM) {M' : DM} (hf : fd_Op_init a0 M = some M') : jMet l jy_Op_init jb_Op_init 1 none 3 49 743 G [.ref a0] M.length (dce G M) none M'.length (dce G M') :=
  j_met jo_Op_init (by decide) (Nat.le_of_ble_eq_true rfl) (fun p e s m args below meth c C hr hm => KD_Op_init C F (Nat.le_refl _) hm (Nat.le_refl _) (Nat.le_refl _) a0 M (fun t => t = M') (fun M' hX pc ls hd => by cases hX; exact w_vret C hr hd) _ hf rfl)
def fd_Or_init (a0 : Nat) (a1 : Nat) (a2 : Nat) (a3 : Nat) (M : DM) : Option DM := (dPut M a0 2 0 (.ref a1)).bind fun M1 => (dPut M1 a0 2 1 (.ref a2)).bind fun M2 => (dPut M2 a0 2 2 (.ref a3)).bind fun M3 => some M3
section
variable {p : Program} {l : Launch} {e : Env} {R : Room} {s : State} {m : MethodId} {args : Array Value} {below : List Frame} {meth : Method} {c : Code} {G : JG} {D : Nat} {Q : State → Prop}
set_option maxHeartbeats 4000000 in
set_option maxRecDepth 20000 in
theorem KD_Or_init (C : jCx p R s m args meth c G jb_Or_init 4 D "SluicePit$OperaReader") (F : jF G = true) (hD : 1 ≤ D) (hname : meth.name = "<init>") (hRc : 0 ≤ R.cells) (hRs : 0 ≤ R.slots) (a0 : Nat) (a1 : Nat) (a2 : Nat) (a3 : Nat) (M : DM) (X : DM → Prop) (hR : ∀ M', X M' → ∀ (pc : Nat) (ls : List (Option Value)), decode jb_Or_init pc = .ok (.return_, 1) → Wk p l e R s m args below meth c G 4 Q 0 0 M'.length (dce G M') pc ls []) : J X (fd_Or_init a0 a1 a2 a3 M) (Wk p l e R s m args below meth c G 4 Q 0 0 M.length (dce G M) 0 [some (.ref a0), some (.ref a1), some (.ref a2), some (.ref a3)] []) := by
  unfold fd_Or_init
  refine J_mono (w_aload_n C (jd jdt_Or_init 0 rfl) rfl) ?_
  refine J_mono (d_objInit C jw_241 rfl (jd jdt_Or_init 1 rfl)) ?_
  refine J_mono (w_aload_n C (jd jdt_Or_init 2 rfl) rfl) ?_
  refine J_mono (w_aload_n C (jd jdt_Or_init 3 rfl) rfl) ?_
  refine J_bind (fun M1 hM1 => ?_)
  refine J_mono (d_put (Cl := "SluicePit$OperaReader") (T := jT2) (Y := jY2) (N := 3) C F hM1 (by decide) rfl jin2 jY2_ok jnm2 (by decide) jw_242 rfl (Or.inr ⟨rfl, hname, rfl⟩) rfl rfl (jd jdt_Or_init 4 rfl)) ?_
  refine J_mono (w_aload_n C (jd jdt_Or_init 5 rfl) rfl) ?_
  refine J_mono (w_aload_n C (jd jdt_Or_init 6 rfl) rfl) ?_
  refine J_bind (fun M2 hM2 => ?_)
  refine J_mono (d_put (Cl := "SluicePit$OperaReader") (T := jT2) (Y := jY2) (N := 3) C F hM2 (by decide) rfl jin2 jY2_ok jnm2 (by decide) jw_243 rfl (Or.inr ⟨rfl, hname, rfl⟩) rfl rfl (jd jdt_Or_init 7 rfl)) ?_
  refine J_mono (w_aload_n C (jd jdt_Or_init 8 rfl) rfl) ?_
  refine J_mono (w_aload_n C (jd jdt_Or_init 9 rfl) rfl) ?_
  refine J_bind (fun M3 hM3 => ?_)
  refine J_mono (d_put (Cl := "SluicePit$OperaReader") (T := jT2) (Y := jY2) (N := 3) C F hM3 (by decide) rfl jin2 jY2_ok jnm2 (by decide) jw_244 rfl (Or.inl rfl) rfl rfl (jd jdt_Or_init 10 rfl)) ?_
  exact J_some (fun hx => hR M3 hx _ _ (jd jdt_Or_init 11 rfl))
end
theorem CD_Or_init (l : Launch) (G : JG) (F : jF G = true) (a0 : Nat) (a1 : Nat) (a2 : Nat) (a3 : Nat) (M : DM) {M' : DM} (hf : fd_Or_init a0 a1 a2 a3 M = some M') : jMet l jy_Or_init jb_Or_init 4 none 1 0 0 G [.ref a0, .ref a1, .ref a2, .ref a3] M.length (dce G M) none M'.length (dce G M') :=
  j_met jo_Or_init (by decide) (Nat.le_of_ble_eq_true rfl) (fun p e s m args below meth c C hr hm => KD_Or_init C F (Nat.le_refl _) hm (Nat.le_refl _) (Nat.le_refl _) a0 a1 a2 a3 M (fun t => t = M') (fun M' hX pc ls hd => by cases hX; exact w_vret C hr hd) _ hf rfl)
def fd_Ac_forget (a0 : Nat) (M : DM) : Option DM := (dPut M a0 0 3 (.int 0)).bind fun M1 => (dPut M1 a0 0 4 (.int 0)).bind fun M2 => some M2
section
variable {p : Program} {l : Launch} {e : Env} {R : Room} {s : State} {m : MethodId} {args : Array Value} {below : List Frame} {meth : Method} {c : Code} {G : JG} {D : Nat} {Q : State → Prop}
set_option maxHeartbeats 4000000 in
set_option maxRecDepth 20000 in
theorem KD_Ac_forget (C : jCx p R s m args meth c G jb_Ac_forget 1 D "SluicePit$Acts") (F : jF G = true) (hD : 1 ≤ D) (hRc : 0 ≤ R.cells) (hRs : 0 ≤ R.slots) (a0 : Nat) (M : DM) (X : DM → Prop) (hR : ∀ M', X M' → ∀ (pc : Nat) (ls : List (Option Value)), decode jb_Ac_forget pc = .ok (.return_, 1) → Wk p l e R s m args below meth c G 1 Q 0 0 M'.length (dce G M') pc ls []) : J X (fd_Ac_forget a0 M) (Wk p l e R s m args below meth c G 1 Q 0 0 M.length (dce G M) 0 [some (.ref a0)] []) := by
  unfold fd_Ac_forget
  refine J_mono (w_aload_n C (jd jdt_Ac_forget 0 rfl) rfl) ?_
  refine J_mono (w_iconst_0 C (jd jdt_Ac_forget 1 rfl)) ?_
  refine J_bind (fun M1 hM1 => ?_)
  refine J_mono (d_put (Cl := "SluicePit$Acts") (T := jT0) (Y := jY0) (N := 5) C F hM1 (by decide) rfl jin0 jY0_ok jnm0 (by decide) jw_266 rfl (Or.inl rfl) rfl rfl (jd jdt_Ac_forget 2 rfl)) ?_
  refine J_mono (w_aload_n C (jd jdt_Ac_forget 3 rfl) rfl) ?_
  refine J_mono (w_iconst_0 C (jd jdt_Ac_forget 4 rfl)) ?_
  refine J_bind (fun M2 hM2 => ?_)
  refine J_mono (d_put (Cl := "SluicePit$Acts") (T := jT0) (Y := jY0) (N := 5) C F hM2 (by decide) rfl jin0 jY0_ok jnm0 (by decide) jw_267 rfl (Or.inl rfl) rfl rfl (jd jdt_Ac_forget 5 rfl)) ?_
  exact J_some (fun hx => hR M2 hx _ _ (jd jdt_Ac_forget 6 rfl))
end
theorem CD_Ac_forget (l : Launch) (G : JG) (F : jF G = true) (a0 : Nat) (M : DM) {M' : DM} (hf : fd_Ac_forget a0 M = some M') : jMet l jy_Ac_forget jb_Ac_forget 1 none 1 0 0 G [.ref a0] M.length (dce G M) none M'.length (dce G M') :=
  j_met jo_Ac_forget (by decide) (Nat.le_of_ble_eq_true rfl) (fun p e s m args below meth c C hr hm => KD_Ac_forget C F (Nat.le_refl _) (Nat.le_refl _) (Nat.le_refl _) a0 M (fun t => t = M') (fun M' hX pc ls hd => by cases hX; exact w_vret C hr hd) _ hf rfl)
def fd_Ac_init (a0 : Nat) (M : DM) : Option DM := (dNew M 100 (List.replicate 20 (.int 0))).bind fun M1 => (dPut M1 a0 0 0 (.ref M.length)).bind fun M2 => (dNew M2 100 (List.replicate 20 (.int 0))).bind fun M3 => (dPut M3 a0 0 1 (.ref M2.length)).bind fun M4 => (dRows M4 20 60).bind fun M5 => (dPut M5 a0 0 2 (.ref M4.length)).bind fun M6 => (dChk M6 a0 0).bind fun u8 => (fd_Ac_forget a0 M6).bind fun M7 => some M7
section
variable {p : Program} {l : Launch} {e : Env} {R : Room} {s : State} {m : MethodId} {args : Array Value} {below : List Frame} {meth : Method} {c : Code} {G : JG} {D : Nat} {Q : State → Prop}
set_option maxHeartbeats 4000000 in
set_option maxRecDepth 20000 in
theorem KD_Ac_init (C : jCx p R s m args meth c G jb_Ac_init 1 D "SluicePit$Acts") (F : jF G = true) (hD : 2 ≤ D) (hname : meth.name = "<init>") (hRc : 23 ≤ R.cells) (hRs : 1260 ≤ R.slots) (a0 : Nat) (M : DM) (X : DM → Prop) (hR : ∀ M', X M' → ∀ (pc : Nat) (ls : List (Option Value)), decode jb_Ac_init pc = .ok (.return_, 1) → Wk p l e R s m args below meth c G 1 Q 23 1260 M'.length (dce G M') pc ls []) : J X (fd_Ac_init a0 M) (Wk p l e R s m args below meth c G 1 Q 0 0 M.length (dce G M) 0 [some (.ref a0)] []) := by
  unfold fd_Ac_init
  refine J_mono (w_aload_n C (jd jdt_Ac_init 0 rfl) rfl) ?_
  refine J_mono (d_objInit C jw_257 rfl (jd jdt_Ac_init 1 rfl)) ?_
  refine J_mono (w_aload_n C (jd jdt_Ac_init 2 rfl) rfl) ?_
  refine J_mono (w_bipush_20 C (jd jdt_Ac_init 3 rfl)) ?_
  refine J_bind (fun M1 hM1 => ?_)
  refine J_mono (d_newa (at_ := .int) C F hM1 jw_45 rfl (Or.inl ⟨rfl, rfl, rfl⟩) (by decide) (by decide) (by decide) (Nat.le_trans (Nat.le_of_ble_eq_true rfl : 1 ≤ 23) hRc) (Nat.le_trans (Nat.le_of_ble_eq_true rfl : 20 ≤ 1260) hRs) (jd jdt_Ac_init 4 rfl)) ?_
  refine J_bind (fun M2 hM2 => ?_)
  refine J_mono (d_put (Cl := "SluicePit$Acts") (T := jT0) (Y := jY0) (N := 5) C F hM2 (by decide) rfl jin0 jY0_ok jnm0 (by decide) jw_263 rfl (Or.inr ⟨rfl, hname, rfl⟩) rfl rfl (jd jdt_Ac_init 5 rfl)) ?_
  refine J_mono (w_aload_n C (jd jdt_Ac_init 6 rfl) rfl) ?_
  refine J_mono (w_bipush_20 C (jd jdt_Ac_init 7 rfl)) ?_
  refine J_bind (fun M3 hM3 => ?_)
  refine J_mono (d_newa (at_ := .int) C F hM3 jw_45 rfl (Or.inl ⟨rfl, rfl, rfl⟩) (by decide) (by decide) (by decide) (Nat.le_trans (Nat.le_of_ble_eq_true rfl : 2 ≤ 23) hRc) (Nat.le_trans (Nat.le_of_ble_eq_true rfl : 40 ≤ 1260) hRs) (jd jdt_Ac_init 8 rfl)) ?_
  refine J_bind (fun M4 hM4 => ?_)
  refine J_mono (d_put (Cl := "SluicePit$Acts") (T := jT0) (Y := jY0) (N := 5) C F hM4 (by decide) rfl jin0 jY0_ok jnm0 (by decide) jw_264 rfl (Or.inr ⟨rfl, hname, rfl⟩) rfl rfl (jd jdt_Ac_init 9 rfl)) ?_
  refine J_mono (w_aload_n C (jd jdt_Ac_init 10 rfl) rfl) ?_
  refine J_mono (w_bipush_20 C (jd jdt_Ac_init 11 rfl)) ?_
  refine J_mono (w_bipush_60 C (jd jdt_Ac_init 12 rfl)) ?_
  refine J_bind (fun M5 hM5 => ?_)
  refine J_mono (d_rows C F hM5 jw_258 (by decide) (by decide) (by decide) (by decide) (by decide) (by decide) (Nat.le_trans (Nat.le_of_ble_eq_true rfl : 23 ≤ 23) hRc) (Nat.le_trans (Nat.le_of_ble_eq_true rfl : 1260 ≤ 1260) hRs) (jd jdt_Ac_init 13 rfl)) ?_
  refine J_bind (fun M6 hM6 => ?_)
  refine J_mono (d_put (Cl := "SluicePit$Acts") (T := jT0) (Y := jY0) (N := 5) C F hM6 (by decide) rfl jin0 jY0_ok jnm0 (by decide) jw_265 rfl (Or.inr ⟨rfl, hname, rfl⟩) rfl rfl (jd jdt_Ac_init 14 rfl)) ?_
  refine J_mono (w_aload_n C (jd jdt_Ac_init 15 rfl) rfl) ?_
  refine J_bind (fun u8 hu8 => ?_)
  refine J_bind (fun M7 hM7 => ?_)
  refine J_mono (w_callV (As := []) (T := jT0) (N := 5) (r := none) C jo_Ac_forget (CD_Ac_forget l G F a0  M6 hM7) (dget (dChk_in hu8) (Or.inl (by decide))).2 (dce_o (dChk_in hu8) (by decide)) rfl jw_259 jw_260 jw_261 (Nat.le_trans (Nat.le_of_ble_eq_true rfl : 1 + 1 ≤ 2) hD) (by decide) rfl (Nat.le_of_ble_eq_true rfl) (jd jdt_Ac_init 16 rfl) ⟨Nat.le_trans (Nat.le_of_ble_eq_true rfl : 23 ≤ 23) hRc, Nat.le_trans (Nat.le_of_ble_eq_true rfl : 1260 ≤ 1260) hRs⟩) ?_
  exact J_some (fun hx => hR M7 hx _ _ (jd jdt_Ac_init 17 rfl))
end
theorem CD_Ac_init (l : Launch) (G : JG) (F : jF G = true) (a0 : Nat) (M : DM) {M' : DM} (hf : fd_Ac_init a0 M = some M') : jMet l jy_Ac_init jb_Ac_init 1 none 2 23 1260 G [.ref a0] M.length (dce G M) none M'.length (dce G M') :=
  j_met jo_Ac_init (by decide) (Nat.le_of_ble_eq_true rfl) (fun p e s m args below meth c C hr hm => KD_Ac_init C F (Nat.le_refl _) hm (Nat.le_refl _) (Nat.le_refl _) a0 M (fun t => t = M') (fun M' hX pc ls hd => by cases hX; exact w_vret C hr hd) _ hf rfl)
def fd_Ru_init (a0 : Nat) (M : DM) : Option DM := (dRows M 61 12).bind fun M1 => (dPut M1 a0 8 0 (.ref M.length)).bind fun M2 => (dRows M2 61 4).bind fun M3 => (dPut M3 a0 8 1 (.ref M2.length)).bind fun M4 => (dRows M4 61 6).bind fun M5 => (dPut M5 a0 8 2 (.ref M4.length)).bind fun M6 => some M6
section
variable {p : Program} {l : Launch} {e : Env} {R : Room} {s : State} {m : MethodId} {args : Array Value} {below : List Frame} {meth : Method} {c : Code} {G : JG} {D : Nat} {Q : State → Prop}
set_option maxHeartbeats 4000000 in
set_option maxRecDepth 20000 in
theorem KD_Ru_init (C : jCx p R s m args meth c G jb_Ru_init 1 D "SluicePit$Run") (F : jF G = true) (hD : 1 ≤ D) (hname : meth.name = "<init>") (hRc : 186 ≤ R.cells) (hRs : 1525 ≤ R.slots) (a0 : Nat) (M : DM) (X : DM → Prop) (hR : ∀ M', X M' → ∀ (pc : Nat) (ls : List (Option Value)), decode jb_Ru_init pc = .ok (.return_, 1) → Wk p l e R s m args below meth c G 1 Q 186 1525 M'.length (dce G M') pc ls []) : J X (fd_Ru_init a0 M) (Wk p l e R s m args below meth c G 1 Q 0 0 M.length (dce G M) 0 [some (.ref a0)] []) := by
  unfold fd_Ru_init
  refine J_mono (w_aload_n C (jd jdt_Ru_init 0 rfl) rfl) ?_
  refine J_mono (d_objInit C jw_285 rfl (jd jdt_Ru_init 1 rfl)) ?_
  refine J_mono (w_aload_n C (jd jdt_Ru_init 2 rfl) rfl) ?_
  refine J_mono (w_bipush_61 C (jd jdt_Ru_init 3 rfl)) ?_
  refine J_mono (w_bipush_12 C (jd jdt_Ru_init 4 rfl)) ?_
  refine J_bind (fun M1 hM1 => ?_)
  refine J_mono (d_rows C F hM1 jw_286 (by decide) (by decide) (by decide) (by decide) (by decide) (by decide) (Nat.le_trans (Nat.le_of_ble_eq_true rfl : 62 ≤ 186) hRc) (Nat.le_trans (Nat.le_of_ble_eq_true rfl : 793 ≤ 1525) hRs) (jd jdt_Ru_init 5 rfl)) ?_
  refine J_bind (fun M2 hM2 => ?_)
  refine J_mono (d_put (Cl := "SluicePit$Run") (T := jT8) (Y := jY8) (N := 3) C F hM2 (by decide) rfl jin8 jY8_ok jnm8 (by decide) jw_287 rfl (Or.inr ⟨rfl, hname, rfl⟩) rfl rfl (jd jdt_Ru_init 6 rfl)) ?_
  refine J_mono (w_aload_n C (jd jdt_Ru_init 7 rfl) rfl) ?_
  refine J_mono (w_bipush_61 C (jd jdt_Ru_init 8 rfl)) ?_
  refine J_mono (w_iconst_4 C (jd jdt_Ru_init 9 rfl)) ?_
  refine J_bind (fun M3 hM3 => ?_)
  refine J_mono (d_rows C F hM3 jw_286 (by decide) (by decide) (by decide) (by decide) (by decide) (by decide) (Nat.le_trans (Nat.le_of_ble_eq_true rfl : 124 ≤ 186) hRc) (Nat.le_trans (Nat.le_of_ble_eq_true rfl : 1098 ≤ 1525) hRs) (jd jdt_Ru_init 10 rfl)) ?_
  refine J_bind (fun M4 hM4 => ?_)
  refine J_mono (d_put (Cl := "SluicePit$Run") (T := jT8) (Y := jY8) (N := 3) C F hM4 (by decide) rfl jin8 jY8_ok jnm8 (by decide) jw_288 rfl (Or.inr ⟨rfl, hname, rfl⟩) rfl rfl (jd jdt_Ru_init 11 rfl)) ?_
  refine J_mono (w_aload_n C (jd jdt_Ru_init 12 rfl) rfl) ?_
  refine J_mono (w_bipush_61 C (jd jdt_Ru_init 13 rfl)) ?_
  refine J_mono (w_bipush_6 C (jd jdt_Ru_init 14 rfl)) ?_
  refine J_bind (fun M5 hM5 => ?_)
  refine J_mono (d_rows C F hM5 jw_286 (by decide) (by decide) (by decide) (by decide) (by decide) (by decide) (Nat.le_trans (Nat.le_of_ble_eq_true rfl : 186 ≤ 186) hRc) (Nat.le_trans (Nat.le_of_ble_eq_true rfl : 1525 ≤ 1525) hRs) (jd jdt_Ru_init 15 rfl)) ?_
  refine J_bind (fun M6 hM6 => ?_)
  refine J_mono (d_put (Cl := "SluicePit$Run") (T := jT8) (Y := jY8) (N := 3) C F hM6 (by decide) rfl jin8 jY8_ok jnm8 (by decide) jw_289 rfl (Or.inr ⟨rfl, hname, rfl⟩) rfl rfl (jd jdt_Ru_init 16 rfl)) ?_
  exact J_some (fun hx => hR M6 hx _ _ (jd jdt_Ru_init 17 rfl))
end
theorem CD_Ru_init (l : Launch) (G : JG) (F : jF G = true) (a0 : Nat) (M : DM) {M' : DM} (hf : fd_Ru_init a0 M = some M') : jMet l jy_Ru_init jb_Ru_init 1 none 1 186 1525 G [.ref a0] M.length (dce G M) none M'.length (dce G M') :=
  j_met jo_Ru_init (by decide) (Nat.le_of_ble_eq_true rfl) (fun p e s m args below meth c C hr hm => KD_Ru_init C F (Nat.le_refl _) hm (Nat.le_refl _) (Nat.le_refl _) a0 M (fun t => t = M') (fun M' hX pc ls hd => by cases hX; exact w_vret C hr hd) _ hf rfl)
def fd_Po_suppose (a0 : Nat) (M : DM) : Option DM := (dPut M a0 5 7 (.int 0)).bind fun M1 => (dPut M1 a0 5 8 (.int (-1))).bind fun M2 => (dPut M2 a0 5 9 (.int 0)).bind fun M3 => (dPut M3 a0 5 10 (.int 0)).bind fun M4 => some M4
section
variable {p : Program} {l : Launch} {e : Env} {R : Room} {s : State} {m : MethodId} {args : Array Value} {below : List Frame} {meth : Method} {c : Code} {G : JG} {D : Nat} {Q : State → Prop}
set_option maxHeartbeats 4000000 in
set_option maxRecDepth 20000 in
theorem KD_Po_suppose (C : jCx p R s m args meth c G jb_Po_suppose 1 D "SluicePit$Pool") (F : jF G = true) (hD : 1 ≤ D) (hRc : 0 ≤ R.cells) (hRs : 0 ≤ R.slots) (a0 : Nat) (M : DM) (X : DM → Prop) (hR : ∀ M', X M' → ∀ (pc : Nat) (ls : List (Option Value)), decode jb_Po_suppose pc = .ok (.return_, 1) → Wk p l e R s m args below meth c G 1 Q 0 0 M'.length (dce G M') pc ls []) : J X (fd_Po_suppose a0 M) (Wk p l e R s m args below meth c G 1 Q 0 0 M.length (dce G M) 0 [some (.ref a0)] []) := by
  unfold fd_Po_suppose
  refine J_mono (w_aload_n C (jd jdt_Po_suppose 0 rfl) rfl) ?_
  refine J_mono (w_iconst_0 C (jd jdt_Po_suppose 1 rfl)) ?_
  refine J_bind (fun M1 hM1 => ?_)
  refine J_mono (d_put (Cl := "SluicePit$Pool") (T := jT5) (Y := jY5) (N := 11) C F hM1 (by decide) rfl jin5 jY5_ok jnm5 (by decide) jw_322 rfl (Or.inl rfl) rfl rfl (jd jdt_Po_suppose 2 rfl)) ?_
  refine J_mono (w_aload_n C (jd jdt_Po_suppose 3 rfl) rfl) ?_
  refine J_mono (w_iconst_m1 C (jd jdt_Po_suppose 4 rfl)) ?_
  refine J_bind (fun M2 hM2 => ?_)
  refine J_mono (d_put (Cl := "SluicePit$Pool") (T := jT5) (Y := jY5) (N := 11) C F hM2 (by decide) rfl jin5 jY5_ok jnm5 (by decide) jw_324 rfl (Or.inl rfl) rfl rfl (jd jdt_Po_suppose 5 rfl)) ?_
  refine J_mono (w_aload_n C (jd jdt_Po_suppose 6 rfl) rfl) ?_
  refine J_mono (w_iconst_0 C (jd jdt_Po_suppose 7 rfl)) ?_
  refine J_bind (fun M3 hM3 => ?_)
  refine J_mono (d_put (Cl := "SluicePit$Pool") (T := jT5) (Y := jY5) (N := 11) C F hM3 (by decide) rfl jin5 jY5_ok jnm5 (by decide) jw_326 rfl (Or.inl rfl) rfl rfl (jd jdt_Po_suppose 8 rfl)) ?_
  refine J_mono (w_aload_n C (jd jdt_Po_suppose 9 rfl) rfl) ?_
  refine J_mono (w_iconst_0 C (jd jdt_Po_suppose 10 rfl)) ?_
  refine J_bind (fun M4 hM4 => ?_)
  refine J_mono (d_put (Cl := "SluicePit$Pool") (T := jT5) (Y := jY5) (N := 11) C F hM4 (by decide) rfl jin5 jY5_ok jnm5 (by decide) jw_328 rfl (Or.inl rfl) rfl rfl (jd jdt_Po_suppose 11 rfl)) ?_
  exact J_some (fun hx => hR M4 hx _ _ (jd jdt_Po_suppose 12 rfl))
end
theorem CD_Po_suppose (l : Launch) (G : JG) (F : jF G = true) (a0 : Nat) (M : DM) {M' : DM} (hf : fd_Po_suppose a0 M = some M') : jMet l jy_Po_suppose jb_Po_suppose 1 none 1 0 0 G [.ref a0] M.length (dce G M) none M'.length (dce G M') :=
  j_met jo_Po_suppose (by decide) (Nat.le_of_ble_eq_true rfl) (fun p e s m args below meth c C hr hm => KD_Po_suppose C F (Nat.le_refl _) (Nat.le_refl _) (Nat.le_refl _) a0 M (fun t => t = M') (fun M' hX pc ls hd => by cases hX; exact w_vret C hr hd) _ hf rfl)
def fd_Po_init (a0 : Nat) (M : DM) : Option DM := (dNew M 100 (List.replicate 12 (.int 0))).bind fun M1 => (dPut M1 a0 5 0 (.ref M.length)).bind fun M2 => (dNew M2 100 (List.replicate 4 (.int 0))).bind fun M3 => (dPut M3 a0 5 1 (.ref M2.length)).bind fun M4 => (dChk M4 a0 5).bind fun u6 => (fd_Po_suppose a0 M4).bind fun M5 => some M5
section
variable {p : Program} {l : Launch} {e : Env} {R : Room} {s : State} {m : MethodId} {args : Array Value} {below : List Frame} {meth : Method} {c : Code} {G : JG} {D : Nat} {Q : State → Prop}
set_option maxHeartbeats 4000000 in
set_option maxRecDepth 20000 in
theorem KD_Po_init (C : jCx p R s m args meth c G jb_Po_init 1 D "SluicePit$Pool") (F : jF G = true) (hD : 2 ≤ D) (hname : meth.name = "<init>") (hRc : 2 ≤ R.cells) (hRs : 16 ≤ R.slots) (a0 : Nat) (M : DM) (X : DM → Prop) (hR : ∀ M', X M' → ∀ (pc : Nat) (ls : List (Option Value)), decode jb_Po_init pc = .ok (.return_, 1) → Wk p l e R s m args below meth c G 1 Q 2 16 M'.length (dce G M') pc ls []) : J X (fd_Po_init a0 M) (Wk p l e R s m args below meth c G 1 Q 0 0 M.length (dce G M) 0 [some (.ref a0)] []) := by
  unfold fd_Po_init
  refine J_mono (w_aload_n C (jd jdt_Po_init 0 rfl) rfl) ?_
  refine J_mono (d_objInit C jw_302 rfl (jd jdt_Po_init 1 rfl)) ?_
  refine J_mono (w_aload_n C (jd jdt_Po_init 2 rfl) rfl) ?_
  refine J_mono (w_bipush_12 C (jd jdt_Po_init 3 rfl)) ?_
  refine J_bind (fun M1 hM1 => ?_)
  refine J_mono (d_newa (at_ := .int) C F hM1 jw_45 rfl (Or.inl ⟨rfl, rfl, rfl⟩) (by decide) (by decide) (by decide) (Nat.le_trans (Nat.le_of_ble_eq_true rfl : 1 ≤ 2) hRc) (Nat.le_trans (Nat.le_of_ble_eq_true rfl : 12 ≤ 16) hRs) (jd jdt_Po_init 4 rfl)) ?_
  refine J_bind (fun M2 hM2 => ?_)
  refine J_mono (d_put (Cl := "SluicePit$Pool") (T := jT5) (Y := jY5) (N := 11) C F hM2 (by decide) rfl jin5 jY5_ok jnm5 (by decide) jw_307 rfl (Or.inr ⟨rfl, hname, rfl⟩) rfl rfl (jd jdt_Po_init 5 rfl)) ?_
  refine J_mono (w_aload_n C (jd jdt_Po_init 6 rfl) rfl) ?_
  refine J_mono (w_iconst_4 C (jd jdt_Po_init 7 rfl)) ?_
  refine J_bind (fun M3 hM3 => ?_)
  refine J_mono (d_newa (at_ := .int) C F hM3 jw_45 rfl (Or.inl ⟨rfl, rfl, rfl⟩) (by decide) (by decide) (by decide) (Nat.le_trans (Nat.le_of_ble_eq_true rfl : 2 ≤ 2) hRc) (Nat.le_trans (Nat.le_of_ble_eq_true rfl : 16 ≤ 16) hRs) (jd jdt_Po_init 8 rfl)) ?_
  refine J_bind (fun M4 hM4 => ?_)
  refine J_mono (d_put (Cl := "SluicePit$Pool") (T := jT5) (Y := jY5) (N := 11) C F hM4 (by decide) rfl jin5 jY5_ok jnm5 (by decide) jw_310 rfl (Or.inr ⟨rfl, hname, rfl⟩) rfl rfl (jd jdt_Po_init 9 rfl)) ?_
  refine J_mono (w_aload_n C (jd jdt_Po_init 10 rfl) rfl) ?_
  refine J_bind (fun u6 hu6 => ?_)
  refine J_bind (fun M5 hM5 => ?_)
  refine J_mono (w_callV (As := []) (T := jT5) (N := 11) (r := none) C jo_Po_suppose (CD_Po_suppose l G F a0  M4 hM5) (dget (dChk_in hu6) (Or.inl (by decide))).2 (dce_o (dChk_in hu6) (by decide)) rfl jw_303 jw_305 jws_Po_suppose (Nat.le_trans (Nat.le_of_ble_eq_true rfl : 1 + 1 ≤ 2) hD) (by decide) rfl (Nat.le_of_ble_eq_true rfl) (jd jdt_Po_init 11 rfl) ⟨Nat.le_trans (Nat.le_of_ble_eq_true rfl : 2 ≤ 2) hRc, Nat.le_trans (Nat.le_of_ble_eq_true rfl : 16 ≤ 16) hRs⟩) ?_
  exact J_some (fun hx => hR M5 hx _ _ (jd jdt_Po_init 12 rfl))
end
theorem CD_Po_init (l : Launch) (G : JG) (F : jF G = true) (a0 : Nat) (M : DM) {M' : DM} (hf : fd_Po_init a0 M = some M') : jMet l jy_Po_init jb_Po_init 1 none 2 2 16 G [.ref a0] M.length (dce G M) none M'.length (dce G M') :=
  j_met jo_Po_init (by decide) (Nat.le_of_ble_eq_true rfl) (fun p e s m args below meth c C hr hm => KD_Po_init C F (Nat.le_refl _) hm (Nat.le_refl _) (Nat.le_refl _) a0 M (fun t => t = M') (fun M' hX pc ls hd => by cases hX; exact w_vret C hr hd) _ hf rfl)
def fd_Qu_init (a0 : Nat) (a1 : Nat) (a2 : Nat) (a3 : Nat) (M : DM) : Option DM := (dPut M a0 6 0 (.ref a1)).bind fun M1 => (dPut M1 a0 6 1 (.ref a2)).bind fun M2 => (dPut M2 a0 6 4 (.ref a3)).bind fun M3 => (dRows M3 40 61).bind fun M4 => (dPut M4 a0 6 2 (.ref M3.length)).bind fun M5 => (dPut M5 a0 6 3 (.int 0)).bind fun M6 => some M6
section
variable {p : Program} {l : Launch} {e : Env} {R : Room} {s : State} {m : MethodId} {args : Array Value} {below : List Frame} {meth : Method} {c : Code} {G : JG} {D : Nat} {Q : State → Prop}
set_option maxHeartbeats 4000000 in
set_option maxRecDepth 20000 in
theorem KD_Qu_init (C : jCx p R s m args meth c G jb_Qu_init 4 D "SluicePit$Question") (F : jF G = true) (hD : 1 ≤ D) (hname : meth.name = "<init>") (hRc : 41 ≤ R.cells) (hRs : 2480 ≤ R.slots) (a0 : Nat) (a1 : Nat) (a2 : Nat) (a3 : Nat) (M : DM) (X : DM → Prop) (hR : ∀ M', X M' → ∀ (pc : Nat) (ls : List (Option Value)), decode jb_Qu_init pc = .ok (.return_, 1) → Wk p l e R s m args below meth c G 4 Q 41 2480 M'.length (dce G M') pc ls []) : J X (fd_Qu_init a0 a1 a2 a3 M) (Wk p l e R s m args below meth c G 4 Q 0 0 M.length (dce G M) 0 [some (.ref a0), some (.ref a1), some (.ref a2), some (.ref a3)] []) := by
  unfold fd_Qu_init
  refine J_mono (w_aload_n C (jd jdt_Qu_init 0 rfl) rfl) ?_
  refine J_mono (d_objInit C jw_358 rfl (jd jdt_Qu_init 1 rfl)) ?_
  refine J_mono (w_aload_n C (jd jdt_Qu_init 2 rfl) rfl) ?_
  refine J_mono (w_aload_n C (jd jdt_Qu_init 3 rfl) rfl) ?_
  refine J_bind (fun M1 hM1 => ?_)
  refine J_mono (d_put (Cl := "SluicePit$Question") (T := jT6) (Y := jY6) (N := 5) C F hM1 (by decide) rfl jin6 jY6_ok jnm6 (by decide) jw_360 rfl (Or.inr ⟨rfl, hname, rfl⟩) rfl rfl (jd jdt_Qu_init 4 rfl)) ?_
  refine J_mono (w_aload_n C (jd jdt_Qu_init 5 rfl) rfl) ?_
  refine J_mono (w_aload_n C (jd jdt_Qu_init 6 rfl) rfl) ?_
  refine J_bind (fun M2 hM2 => ?_)
  refine J_mono (d_put (Cl := "SluicePit$Question") (T := jT6) (Y := jY6) (N := 5) C F hM2 (by decide) rfl jin6 jY6_ok jnm6 (by decide) jw_361 rfl (Or.inr ⟨rfl, hname, rfl⟩) rfl rfl (jd jdt_Qu_init 7 rfl)) ?_
  refine J_mono (w_aload_n C (jd jdt_Qu_init 8 rfl) rfl) ?_
  refine J_mono (w_aload_n C (jd jdt_Qu_init 9 rfl) rfl) ?_
  refine J_bind (fun M3 hM3 => ?_)
  refine J_mono (d_put (Cl := "SluicePit$Question") (T := jT6) (Y := jY6) (N := 5) C F hM3 (by decide) rfl jin6 jY6_ok jnm6 (by decide) jw_364 rfl (Or.inl rfl) rfl rfl (jd jdt_Qu_init 10 rfl)) ?_
  refine J_mono (w_aload_n C (jd jdt_Qu_init 11 rfl) rfl) ?_
  refine J_mono (w_bipush_40 C (jd jdt_Qu_init 12 rfl)) ?_
  refine J_mono (w_bipush_61 C (jd jdt_Qu_init 13 rfl)) ?_
  refine J_bind (fun M4 hM4 => ?_)
  refine J_mono (d_rows C F hM4 jw_359 (by decide) (by decide) (by decide) (by decide) (by decide) (by decide) (Nat.le_trans (Nat.le_of_ble_eq_true rfl : 41 ≤ 41) hRc) (Nat.le_trans (Nat.le_of_ble_eq_true rfl : 2480 ≤ 2480) hRs) (jd jdt_Qu_init 14 rfl)) ?_
  refine J_bind (fun M5 hM5 => ?_)
  refine J_mono (d_put (Cl := "SluicePit$Question") (T := jT6) (Y := jY6) (N := 5) C F hM5 (by decide) rfl jin6 jY6_ok jnm6 (by decide) jw_362 rfl (Or.inr ⟨rfl, hname, rfl⟩) rfl rfl (jd jdt_Qu_init 15 rfl)) ?_
  refine J_mono (w_aload_n C (jd jdt_Qu_init 16 rfl) rfl) ?_
  refine J_mono (w_iconst_0 C (jd jdt_Qu_init 17 rfl)) ?_
  refine J_bind (fun M6 hM6 => ?_)
  refine J_mono (d_put (Cl := "SluicePit$Question") (T := jT6) (Y := jY6) (N := 5) C F hM6 (by decide) rfl jin6 jY6_ok jnm6 (by decide) jw_363 rfl (Or.inl rfl) rfl rfl (jd jdt_Qu_init 18 rfl)) ?_
  exact J_some (fun hx => hR M6 hx _ _ (jd jdt_Qu_init 19 rfl))
end
theorem CD_Qu_init (l : Launch) (G : JG) (F : jF G = true) (a0 : Nat) (a1 : Nat) (a2 : Nat) (a3 : Nat) (M : DM) {M' : DM} (hf : fd_Qu_init a0 a1 a2 a3 M = some M') : jMet l jy_Qu_init jb_Qu_init 4 none 1 41 2480 G [.ref a0, .ref a1, .ref a2, .ref a3] M.length (dce G M) none M'.length (dce G M') :=
  j_met jo_Qu_init (by decide) (Nat.le_of_ble_eq_true rfl) (fun p e s m args below meth c C hr hm => KD_Qu_init C F (Nat.le_refl _) hm (Nat.le_refl _) (Nat.le_refl _) a0 a1 a2 a3 M (fun t => t = M') (fun M' hX pc ls hd => by cases hX; exact w_vret C hr hd) _ hf rfl)
def fd_Sp_init (a0 : Nat) (M : DM) : Option DM := (dNew M 10 [.null, .int 0]).bind fun M1 => (fd_Ta_init M.length M1).bind fun M2 => (dPut M2 a0 11 0 (.ref M.length)).bind fun M3 => (dNew M3 7 [.null, .int 0, .null, .int 0, .int 0, .int 0, .int 0]).bind fun M4 => (dGetR M4 a0 11 0).bind fun r5 => (fd_Re_init M3.length r5 M4).bind fun M6 => (dPut M6 a0 11 1 (.ref M3.length)).bind fun M7 => (dNew M7 3 [.null, .null, .int 0]).bind fun M8 => (dGetR M8 a0 11 1).bind fun r9 => (fd_Pr_init M7.length r9 M8).bind fun M10 => (dPut M10 a0 11 2 (.ref M7.length)).bind fun M11 => (dNew M11 1 [.int 0, .int 0, .int 0, .int 0, .int 0, .null, .null, .null, .null, .null, .null, .null, .null, .null]).bind fun M12 => (fd_Op_init M11.length M12).bind fun M13 => (dPut M13 a0 11 8 (.ref M11.length)).bind fun M14 => (dNew M14 1 [.int 0, .int 0, .int 0, .int 0, .int 0, .null, .null, .null, .null, .null, .null, .null, .null, .null]).bind fun M15 => (fd_Op_init M14.length M15).bind fun M16 => (dPut M16 a0 11 9 (.ref M14.length)).bind fun M17 => (dNew M17 2 [.null, .null, .null]).bind fun M18 => (dGetR M18 a0 11 1).bind fun r19 => (dGetR M18 a0 11 2).bind fun r20 => (dGetR M18 a0 11 9).bind fun r21 => (fd_Or_init M17.length r19 r20 r21 M18).bind fun M22 => (dPut M22 a0 11 3 (.ref M17.length)).bind fun M23 => (dNew M23 0 [.null, .null, .null, .int 0, .int 0]).bind fun M24 => (fd_Ac_init M23.length M24).bind fun M25 => (dPut M25 a0 11 5 (.ref M23.length)).bind fun M26 => (dNew M26 8 [.null, .null, .null]).bind fun M27 => (fd_Ru_init M26.length M27).bind fun M28 => (dPut M28 a0 11 6 (.ref M26.length)).bind fun M29 => (dNew M29 5 [.null, .null, .int 0, .int 0, .int 0, .int 0, .int 0, .int 0, .int 0, .int 0, .int 0]).bind fun M30 => (fd_Po_init M29.length M30).bind fun M31 => (dPut M31 a0 11 7 (.ref M29.length)).bind fun M32 => (dNew M32 6 [.null, .null, .null, .int 0, .null]).bind fun M33 => (dGetR M33 a0 11 1).bind fun r34 => (dGetR M33 a0 11 6).bind fun r35 => (dGetR M33 a0 11 8).bind fun r36 => (fd_Qu_init M32.length r34 r35 r36 M33).bind fun M37 => (dPut M37 a0 11 4 (.ref M32.length)).bind fun M38 => (dNew M38 100 (List.replicate 12 (.int 0))).bind fun M39 => (dPut M39 a0 11 10 (.ref M38.length)).bind fun M40 => (dPut M40 a0 11 11 (.int 0)).bind fun M41 => (dPut M41 a0 11 12 (.long 1)).bind fun M42 => (dNew M42 100 (List.replicate 489 (.int 0))).bind fun M43 => (dPut M43 a0 11 13 (.ref M42.length)).bind fun M44 => (dPut M44 a0 11 14 (.int 0)).bind fun M45 => some M45
section
variable {p : Program} {l : Launch} {e : Env} {R : Room} {s : State} {m : MethodId} {args : Array Value} {below : List Frame} {meth : Method} {c : Code} {G : JG} {D : Nat} {Q : State → Prop}
set_option maxHeartbeats 4000000 in
set_option maxRecDepth 20000 in
theorem KD_Sp_init (C : jCx p R s m args meth c G jb_Sp_init 1 D "SluicePit") (F : jF G = true) (hD : 4 ≤ D) (hname : meth.name = "<init>") (hRc : 365 ≤ R.cells) (hRs : 9007 ≤ R.slots) (a0 : Nat) (M : DM) (X : DM → Prop) (hR : ∀ M', X M' → ∀ (pc : Nat) (ls : List (Option Value)), decode jb_Sp_init pc = .ok (.return_, 1) → Wk p l e R s m args below meth c G 1 Q 365 9007 M'.length (dce G M') pc ls []) : J X (fd_Sp_init a0 M) (Wk p l e R s m args below meth c G 1 Q 0 0 M.length (dce G M) 0 [some (.ref a0)] []) := by
  unfold fd_Sp_init
  refine J_mono (w_aload_n C (jd jdt_Sp_init 0 rfl) rfl) ?_
  refine J_mono (d_objInit C jw_26 rfl (jd jdt_Sp_init 1 rfl)) ?_
  refine J_mono (w_aload_n C (jd jdt_Sp_init 2 rfl) rfl) ?_
  refine J_bind (fun M1 hM1 => ?_)
  refine J_mono (d_new (Cl := "SluicePit$Tape") (T := jT10) (N := 2) C F hM1 (by decide) rfl jin10 jY10_ok jw_29 jw_30 jw_2 (dnew_def (Nat.le_of_ble_eq_true rfl) jdf_10) (Nat.le_trans (Nat.le_of_ble_eq_true rfl : 1 ≤ 365) hRc) (Nat.le_trans (Nat.le_of_ble_eq_true rfl : 2 ≤ 9007) hRs) (jd jdt_Sp_init 3 rfl)) ?_
  refine J_mono (w_dup_r C (jd jdt_Sp_init 4 rfl)) ?_
  refine J_bind (fun M2 hM2 => ?_)
  refine J_mono (w_callI (As := []) C jo_Ta_init (CD_Ta_init l G F M.length  M1 hM2) jw_31 jw_32 rfl (Nat.le_trans (Nat.le_of_ble_eq_true rfl : 1 + 1 ≤ 4) hD) (by decide) rfl (Nat.le_of_ble_eq_true rfl) (jd jdt_Sp_init 5 rfl) ⟨Nat.le_trans (Nat.le_of_ble_eq_true rfl : 2 ≤ 365) hRc, Nat.le_trans (Nat.le_of_ble_eq_true rfl : 1602 ≤ 9007) hRs⟩) ?_
  refine J_bind (fun M3 hM3 => ?_)
  refine J_mono (d_put (Cl := "SluicePit") (T := jT11) (Y := jY11) (N := 15) C F hM3 (by decide) rfl jin11 jY11_ok jnm11 (by decide) jw_376 rfl (Or.inr ⟨rfl, hname, rfl⟩) rfl rfl (jd jdt_Sp_init 6 rfl)) ?_
  refine J_mono (w_aload_n C (jd jdt_Sp_init 7 rfl) rfl) ?_
  refine J_bind (fun M4 hM4 => ?_)
  refine J_mono (d_new (Cl := "SluicePit$Reader") (T := jT7) (N := 7) C F hM4 (by decide) rfl jin7 jY7_ok jw_46 jw_47 jw_3 (dnew_def (Nat.le_of_ble_eq_true rfl) jdf_7) (Nat.le_trans (Nat.le_of_ble_eq_true rfl : 3 ≤ 365) hRc) (Nat.le_trans (Nat.le_of_ble_eq_true rfl : 1609 ≤ 9007) hRs) (jd jdt_Sp_init 8 rfl)) ?_
  refine J_mono (w_dup_r C (jd jdt_Sp_init 9 rfl)) ?_
  refine J_mono (w_aload_n C (jd jdt_Sp_init 10 rfl) rfl) ?_
  refine J_bind (fun r5 hr5 => ?_)
  refine J_mono (d_getR (Cl := "SluicePit") (T := jT11) (N := 15) C hr5 (by decide) rfl jin11 (by decide) jw_376 rfl (jd jdt_Sp_init 11 rfl)) ?_
  refine J_bind (fun M6 hM6 => ?_)
  refine J_mono (w_callI (As := [.ref r5]) C jo_Re_init (CD_Re_init l G F M3.length r5 M4 hM6) jw_48 jw_49 rfl (Nat.le_trans (Nat.le_of_ble_eq_true rfl : 1 + 1 ≤ 4) hD) (by decide) rfl (Nat.le_of_ble_eq_true rfl) (jd jdt_Sp_init 12 rfl) ⟨Nat.le_trans (Nat.le_of_ble_eq_true rfl : 4 ≤ 365) hRc, Nat.le_trans (Nat.le_of_ble_eq_true rfl : 1621 ≤ 9007) hRs⟩) ?_
  refine J_bind (fun M7 hM7 => ?_)
  refine J_mono (d_put (Cl := "SluicePit") (T := jT11) (Y := jY11) (N := 15) C F hM7 (by decide) rfl jin11 jY11_ok jnm11 (by decide) jw_377 rfl (Or.inr ⟨rfl, hname, rfl⟩) rfl rfl (jd jdt_Sp_init 13 rfl)) ?_
  refine J_mono (w_aload_n C (jd jdt_Sp_init 14 rfl) rfl) ?_
  refine J_bind (fun M8 hM8 => ?_)
  refine J_mono (d_new (Cl := "SluicePit$PartReader") (T := jT3) (N := 3) C F hM8 (by decide) rfl jin3 jY3_ok jw_81 jw_82 jw_4 (dnew_def (Nat.le_of_ble_eq_true rfl) jdf_3) (Nat.le_trans (Nat.le_of_ble_eq_true rfl : 5 ≤ 365) hRc) (Nat.le_trans (Nat.le_of_ble_eq_true rfl : 1624 ≤ 9007) hRs) (jd jdt_Sp_init 15 rfl)) ?_
  refine J_mono (w_dup_r C (jd jdt_Sp_init 16 rfl)) ?_
  refine J_mono (w_aload_n C (jd jdt_Sp_init 17 rfl) rfl) ?_
  refine J_bind (fun r9 hr9 => ?_)
  refine J_mono (d_getR (Cl := "SluicePit") (T := jT11) (N := 15) C hr9 (by decide) rfl jin11 (by decide) jw_377 rfl (jd jdt_Sp_init 18 rfl)) ?_
  refine J_bind (fun M10 hM10 => ?_)
  refine J_mono (w_callI (As := [.ref r9]) C jo_Pr_init (CD_Pr_init l G F M7.length r9 M8 hM10) jw_83 jw_84 rfl (Nat.le_trans (Nat.le_of_ble_eq_true rfl : 1 + 1 ≤ 4) hD) (by decide) rfl (Nat.le_of_ble_eq_true rfl) (jd jdt_Sp_init 19 rfl) ⟨Nat.le_trans (Nat.le_of_ble_eq_true rfl : 6 ≤ 365) hRc, Nat.le_trans (Nat.le_of_ble_eq_true rfl : 1684 ≤ 9007) hRs⟩) ?_
  refine J_bind (fun M11 hM11 => ?_)
  refine J_mono (d_put (Cl := "SluicePit") (T := jT11) (Y := jY11) (N := 15) C F hM11 (by decide) rfl jin11 jY11_ok jnm11 (by decide) jw_378 rfl (Or.inr ⟨rfl, hname, rfl⟩) rfl rfl (jd jdt_Sp_init 20 rfl)) ?_
  refine J_mono (w_aload_n C (jd jdt_Sp_init 21 rfl) rfl) ?_
  refine J_bind (fun M12 hM12 => ?_)
  refine J_mono (d_new (Cl := "SluicePit$Opera") (T := jT1) (N := 14) C F hM12 (by decide) rfl jin1 jY1_ok jw_101 jw_102 jw_5 (dnew_def (Nat.le_of_ble_eq_true rfl) jdf_1) (Nat.le_trans (Nat.le_of_ble_eq_true rfl : 7 ≤ 365) hRc) (Nat.le_trans (Nat.le_of_ble_eq_true rfl : 1698 ≤ 9007) hRs) (jd jdt_Sp_init 22 rfl)) ?_
  refine J_mono (w_dup_r C (jd jdt_Sp_init 23 rfl)) ?_
  refine J_bind (fun M13 hM13 => ?_)
  refine J_mono (w_callI (As := []) C jo_Op_init (CD_Op_init l G F M11.length  M12 hM13) jw_103 jw_104 rfl (Nat.le_trans (Nat.le_of_ble_eq_true rfl : 3 + 1 ≤ 4) hD) (by decide) rfl (Nat.le_of_ble_eq_true rfl) (jd jdt_Sp_init 24 rfl) ⟨Nat.le_trans (Nat.le_of_ble_eq_true rfl : 56 ≤ 365) hRc, Nat.le_trans (Nat.le_of_ble_eq_true rfl : 2441 ≤ 9007) hRs⟩) ?_
  refine J_bind (fun M14 hM14 => ?_)
  refine J_mono (d_put (Cl := "SluicePit") (T := jT11) (Y := jY11) (N := 15) C F hM14 (by decide) rfl jin11 jY11_ok jnm11 (by decide) jw_384 rfl (Or.inl rfl) rfl rfl (jd jdt_Sp_init 25 rfl)) ?_
  refine J_mono (w_aload_n C (jd jdt_Sp_init 26 rfl) rfl) ?_
  refine J_bind (fun M15 hM15 => ?_)
  refine J_mono (d_new (Cl := "SluicePit$Opera") (T := jT1) (N := 14) C F hM15 (by decide) rfl jin1 jY1_ok jw_101 jw_102 jw_5 (dnew_def (Nat.le_of_ble_eq_true rfl) jdf_1) (Nat.le_trans (Nat.le_of_ble_eq_true rfl : 57 ≤ 365) hRc) (Nat.le_trans (Nat.le_of_ble_eq_true rfl : 2455 ≤ 9007) hRs) (jd jdt_Sp_init 27 rfl)) ?_
  refine J_mono (w_dup_r C (jd jdt_Sp_init 28 rfl)) ?_
  refine J_bind (fun M16 hM16 => ?_)
  refine J_mono (w_callI (As := []) C jo_Op_init (CD_Op_init l G F M14.length  M15 hM16) jw_103 jw_104 rfl (Nat.le_trans (Nat.le_of_ble_eq_true rfl : 3 + 1 ≤ 4) hD) (by decide) rfl (Nat.le_of_ble_eq_true rfl) (jd jdt_Sp_init 29 rfl) ⟨Nat.le_trans (Nat.le_of_ble_eq_true rfl : 106 ≤ 365) hRc, Nat.le_trans (Nat.le_of_ble_eq_true rfl : 3198 ≤ 9007) hRs⟩) ?_
  refine J_bind (fun M17 hM17 => ?_)
  refine J_mono (d_put (Cl := "SluicePit") (T := jT11) (Y := jY11) (N := 15) C F hM17 (by decide) rfl jin11 jY11_ok jnm11 (by decide) jw_385 rfl (Or.inl rfl) rfl rfl (jd jdt_Sp_init 30 rfl)) ?_
  refine J_mono (w_aload_n C (jd jdt_Sp_init 31 rfl) rfl) ?_
  refine J_bind (fun M18 hM18 => ?_)
  refine J_mono (d_new (Cl := "SluicePit$OperaReader") (T := jT2) (N := 3) C F hM18 (by decide) rfl jin2 jY2_ok jw_236 jw_237 jw_9 (dnew_def (Nat.le_of_ble_eq_true rfl) jdf_2) (Nat.le_trans (Nat.le_of_ble_eq_true rfl : 107 ≤ 365) hRc) (Nat.le_trans (Nat.le_of_ble_eq_true rfl : 3201 ≤ 9007) hRs) (jd jdt_Sp_init 32 rfl)) ?_
  refine J_mono (w_dup_r C (jd jdt_Sp_init 33 rfl)) ?_
  refine J_mono (w_aload_n C (jd jdt_Sp_init 34 rfl) rfl) ?_
  refine J_bind (fun r19 hr19 => ?_)
  refine J_mono (d_getR (Cl := "SluicePit") (T := jT11) (N := 15) C hr19 (by decide) rfl jin11 (by decide) jw_377 rfl (jd jdt_Sp_init 35 rfl)) ?_
  refine J_mono (w_aload_n C (jd jdt_Sp_init 36 rfl) rfl) ?_
  refine J_bind (fun r20 hr20 => ?_)
  refine J_mono (d_getR (Cl := "SluicePit") (T := jT11) (N := 15) C hr20 (by decide) rfl jin11 (by decide) jw_378 rfl (jd jdt_Sp_init 37 rfl)) ?_
  refine J_mono (w_aload_n C (jd jdt_Sp_init 38 rfl) rfl) ?_
  refine J_bind (fun r21 hr21 => ?_)
  refine J_mono (d_getR (Cl := "SluicePit") (T := jT11) (N := 15) C hr21 (by decide) rfl jin11 (by decide) jw_385 rfl (jd jdt_Sp_init 39 rfl)) ?_
  refine J_bind (fun M22 hM22 => ?_)
  refine J_mono (w_callI (As := [.ref r19, .ref r20, .ref r21]) C jo_Or_init (CD_Or_init l G F M17.length r19 r20 r21 M18 hM22) jw_238 jw_239 rfl (Nat.le_trans (Nat.le_of_ble_eq_true rfl : 1 + 1 ≤ 4) hD) (by decide) rfl (Nat.le_of_ble_eq_true rfl) (jd jdt_Sp_init 40 rfl) ⟨Nat.le_trans (Nat.le_of_ble_eq_true rfl : 107 ≤ 365) hRc, Nat.le_trans (Nat.le_of_ble_eq_true rfl : 3201 ≤ 9007) hRs⟩) ?_
  refine J_bind (fun M23 hM23 => ?_)
  refine J_mono (d_put (Cl := "SluicePit") (T := jT11) (Y := jY11) (N := 15) C F hM23 (by decide) rfl jin11 jY11_ok jnm11 (by decide) jw_379 rfl (Or.inr ⟨rfl, hname, rfl⟩) rfl rfl (jd jdt_Sp_init 41 rfl)) ?_
  refine J_mono (w_aload_n C (jd jdt_Sp_init 42 rfl) rfl) ?_
  refine J_bind (fun M24 hM24 => ?_)
  refine J_mono (d_new (Cl := "SluicePit$Acts") (T := jT0) (N := 5) C F hM24 (by decide) rfl jin0 jY0_ok jw_252 jw_253 jw_10 (dnew_def (Nat.le_of_ble_eq_true rfl) jdf_0) (Nat.le_trans (Nat.le_of_ble_eq_true rfl : 108 ≤ 365) hRc) (Nat.le_trans (Nat.le_of_ble_eq_true rfl : 3206 ≤ 9007) hRs) (jd jdt_Sp_init 43 rfl)) ?_
  refine J_mono (w_dup_r C (jd jdt_Sp_init 44 rfl)) ?_
  refine J_bind (fun M25 hM25 => ?_)
  refine J_mono (w_callI (As := []) C jo_Ac_init (CD_Ac_init l G F M23.length  M24 hM25) jw_254 jw_255 rfl (Nat.le_trans (Nat.le_of_ble_eq_true rfl : 2 + 1 ≤ 4) hD) (by decide) rfl (Nat.le_of_ble_eq_true rfl) (jd jdt_Sp_init 45 rfl) ⟨Nat.le_trans (Nat.le_of_ble_eq_true rfl : 131 ≤ 365) hRc, Nat.le_trans (Nat.le_of_ble_eq_true rfl : 4466 ≤ 9007) hRs⟩) ?_
  refine J_bind (fun M26 hM26 => ?_)
  refine J_mono (d_put (Cl := "SluicePit") (T := jT11) (Y := jY11) (N := 15) C F hM26 (by decide) rfl jin11 jY11_ok jnm11 (by decide) jw_381 rfl (Or.inr ⟨rfl, hname, rfl⟩) rfl rfl (jd jdt_Sp_init 46 rfl)) ?_
  refine J_mono (w_aload_n C (jd jdt_Sp_init 47 rfl) rfl) ?_
  refine J_bind (fun M27 hM27 => ?_)
  refine J_mono (d_new (Cl := "SluicePit$Run") (T := jT8) (N := 3) C F hM27 (by decide) rfl jin8 jY8_ok jw_280 jw_281 jw_11 (dnew_def (Nat.le_of_ble_eq_true rfl) jdf_8) (Nat.le_trans (Nat.le_of_ble_eq_true rfl : 132 ≤ 365) hRc) (Nat.le_trans (Nat.le_of_ble_eq_true rfl : 4469 ≤ 9007) hRs) (jd jdt_Sp_init 48 rfl)) ?_
  refine J_mono (w_dup_r C (jd jdt_Sp_init 49 rfl)) ?_
  refine J_bind (fun M28 hM28 => ?_)
  refine J_mono (w_callI (As := []) C jo_Ru_init (CD_Ru_init l G F M26.length  M27 hM28) jw_282 jw_283 rfl (Nat.le_trans (Nat.le_of_ble_eq_true rfl : 1 + 1 ≤ 4) hD) (by decide) rfl (Nat.le_of_ble_eq_true rfl) (jd jdt_Sp_init 50 rfl) ⟨Nat.le_trans (Nat.le_of_ble_eq_true rfl : 318 ≤ 365) hRc, Nat.le_trans (Nat.le_of_ble_eq_true rfl : 5994 ≤ 9007) hRs⟩) ?_
  refine J_bind (fun M29 hM29 => ?_)
  refine J_mono (d_put (Cl := "SluicePit") (T := jT11) (Y := jY11) (N := 15) C F hM29 (by decide) rfl jin11 jY11_ok jnm11 (by decide) jw_382 rfl (Or.inr ⟨rfl, hname, rfl⟩) rfl rfl (jd jdt_Sp_init 51 rfl)) ?_
  refine J_mono (w_aload_n C (jd jdt_Sp_init 52 rfl) rfl) ?_
  refine J_bind (fun M30 hM30 => ?_)
  refine J_mono (d_new (Cl := "SluicePit$Pool") (T := jT5) (N := 11) C F hM30 (by decide) rfl jin5 jY5_ok jw_297 jw_298 jw_12 (dnew_def (Nat.le_of_ble_eq_true rfl) jdf_5) (Nat.le_trans (Nat.le_of_ble_eq_true rfl : 319 ≤ 365) hRc) (Nat.le_trans (Nat.le_of_ble_eq_true rfl : 6005 ≤ 9007) hRs) (jd jdt_Sp_init 53 rfl)) ?_
  refine J_mono (w_dup_r C (jd jdt_Sp_init 54 rfl)) ?_
  refine J_bind (fun M31 hM31 => ?_)
  refine J_mono (w_callI (As := []) C jo_Po_init (CD_Po_init l G F M29.length  M30 hM31) jw_299 jw_300 rfl (Nat.le_trans (Nat.le_of_ble_eq_true rfl : 2 + 1 ≤ 4) hD) (by decide) rfl (Nat.le_of_ble_eq_true rfl) (jd jdt_Sp_init 55 rfl) ⟨Nat.le_trans (Nat.le_of_ble_eq_true rfl : 321 ≤ 365) hRc, Nat.le_trans (Nat.le_of_ble_eq_true rfl : 6021 ≤ 9007) hRs⟩) ?_
  refine J_bind (fun M32 hM32 => ?_)
  refine J_mono (d_put (Cl := "SluicePit") (T := jT11) (Y := jY11) (N := 15) C F hM32 (by decide) rfl jin11 jY11_ok jnm11 (by decide) jw_383 rfl (Or.inr ⟨rfl, hname, rfl⟩) rfl rfl (jd jdt_Sp_init 56 rfl)) ?_
  refine J_mono (w_aload_n C (jd jdt_Sp_init 57 rfl) rfl) ?_
  refine J_bind (fun M33 hM33 => ?_)
  refine J_mono (d_new (Cl := "SluicePit$Question") (T := jT6) (N := 5) C F hM33 (by decide) rfl jin6 jY6_ok jw_353 jw_354 jw_13 (dnew_def (Nat.le_of_ble_eq_true rfl) jdf_6) (Nat.le_trans (Nat.le_of_ble_eq_true rfl : 322 ≤ 365) hRc) (Nat.le_trans (Nat.le_of_ble_eq_true rfl : 6026 ≤ 9007) hRs) (jd jdt_Sp_init 58 rfl)) ?_
  refine J_mono (w_dup_r C (jd jdt_Sp_init 59 rfl)) ?_
  refine J_mono (w_aload_n C (jd jdt_Sp_init 60 rfl) rfl) ?_
  refine J_bind (fun r34 hr34 => ?_)
  refine J_mono (d_getR (Cl := "SluicePit") (T := jT11) (N := 15) C hr34 (by decide) rfl jin11 (by decide) jw_377 rfl (jd jdt_Sp_init 61 rfl)) ?_
  refine J_mono (w_aload_n C (jd jdt_Sp_init 62 rfl) rfl) ?_
  refine J_bind (fun r35 hr35 => ?_)
  refine J_mono (d_getR (Cl := "SluicePit") (T := jT11) (N := 15) C hr35 (by decide) rfl jin11 (by decide) jw_382 rfl (jd jdt_Sp_init 63 rfl)) ?_
  refine J_mono (w_aload_n C (jd jdt_Sp_init 64 rfl) rfl) ?_
  refine J_bind (fun r36 hr36 => ?_)
  refine J_mono (d_getR (Cl := "SluicePit") (T := jT11) (N := 15) C hr36 (by decide) rfl jin11 (by decide) jw_384 rfl (jd jdt_Sp_init 65 rfl)) ?_
  refine J_bind (fun M37 hM37 => ?_)
  refine J_mono (w_callI (As := [.ref r34, .ref r35, .ref r36]) C jo_Qu_init (CD_Qu_init l G F M32.length r34 r35 r36 M33 hM37) jw_355 jw_356 rfl (Nat.le_trans (Nat.le_of_ble_eq_true rfl : 1 + 1 ≤ 4) hD) (by decide) rfl (Nat.le_of_ble_eq_true rfl) (jd jdt_Sp_init 66 rfl) ⟨Nat.le_trans (Nat.le_of_ble_eq_true rfl : 363 ≤ 365) hRc, Nat.le_trans (Nat.le_of_ble_eq_true rfl : 8506 ≤ 9007) hRs⟩) ?_
  refine J_bind (fun M38 hM38 => ?_)
  refine J_mono (d_put (Cl := "SluicePit") (T := jT11) (Y := jY11) (N := 15) C F hM38 (by decide) rfl jin11 jY11_ok jnm11 (by decide) jw_380 rfl (Or.inr ⟨rfl, hname, rfl⟩) rfl rfl (jd jdt_Sp_init 67 rfl)) ?_
  refine J_mono (w_aload_n C (jd jdt_Sp_init 68 rfl) rfl) ?_
  refine J_mono (w_bipush_12 C (jd jdt_Sp_init 69 rfl)) ?_
  refine J_bind (fun M39 hM39 => ?_)
  refine J_mono (d_newa (at_ := .int) C F hM39 jw_45 rfl (Or.inl ⟨rfl, rfl, rfl⟩) (by decide) (by decide) (by decide) (Nat.le_trans (Nat.le_of_ble_eq_true rfl : 364 ≤ 365) hRc) (Nat.le_trans (Nat.le_of_ble_eq_true rfl : 8518 ≤ 9007) hRs) (jd jdt_Sp_init 70 rfl)) ?_
  refine J_bind (fun M40 hM40 => ?_)
  refine J_mono (d_put (Cl := "SluicePit") (T := jT11) (Y := jY11) (N := 15) C F hM40 (by decide) rfl jin11 jY11_ok jnm11 (by decide) jw_386 rfl (Or.inr ⟨rfl, hname, rfl⟩) rfl rfl (jd jdt_Sp_init 71 rfl)) ?_
  refine J_mono (w_aload_n C (jd jdt_Sp_init 72 rfl) rfl) ?_
  refine J_mono (w_iconst_0 C (jd jdt_Sp_init 73 rfl)) ?_
  refine J_bind (fun M41 hM41 => ?_)
  refine J_mono (d_put (Cl := "SluicePit") (T := jT11) (Y := jY11) (N := 15) C F hM41 (by decide) rfl jin11 jY11_ok jnm11 (by decide) jw_387 rfl (Or.inl rfl) rfl rfl (jd jdt_Sp_init 74 rfl)) ?_
  refine J_mono (w_aload_n C (jd jdt_Sp_init 75 rfl) rfl) ?_
  refine J_mono (w_lconst_1 C (jd jdt_Sp_init 76 rfl)) ?_
  refine J_bind (fun M42 hM42 => ?_)
  refine J_mono (d_put (Cl := "SluicePit") (T := jT11) (Y := jY11) (N := 15) C F hM42 (by decide) rfl jin11 jY11_ok jnm11 (by decide) jw_388 rfl (Or.inl rfl) rfl rfl (jd jdt_Sp_init 77 rfl)) ?_
  refine J_mono (w_aload_n C (jd jdt_Sp_init 78 rfl) rfl) ?_
  refine J_mono (w_sipush_489 C (jd jdt_Sp_init 79 rfl)) ?_
  refine J_bind (fun M43 hM43 => ?_)
  refine J_mono (d_newa (at_ := .int) C F hM43 jw_45 rfl (Or.inl ⟨rfl, rfl, rfl⟩) (by decide) (by decide) (by decide) (Nat.le_trans (Nat.le_of_ble_eq_true rfl : 365 ≤ 365) hRc) (Nat.le_trans (Nat.le_of_ble_eq_true rfl : 9007 ≤ 9007) hRs) (jd jdt_Sp_init 80 rfl)) ?_
  refine J_bind (fun M44 hM44 => ?_)
  refine J_mono (d_put (Cl := "SluicePit") (T := jT11) (Y := jY11) (N := 15) C F hM44 (by decide) rfl jin11 jY11_ok jnm11 (by decide) jw_389 rfl (Or.inr ⟨rfl, hname, rfl⟩) rfl rfl (jd jdt_Sp_init 81 rfl)) ?_
  refine J_mono (w_aload_n C (jd jdt_Sp_init 82 rfl) rfl) ?_
  refine J_mono (w_iconst_0 C (jd jdt_Sp_init 83 rfl)) ?_
  refine J_bind (fun M45 hM45 => ?_)
  refine J_mono (d_put (Cl := "SluicePit") (T := jT11) (Y := jY11) (N := 15) C F hM45 (by decide) rfl jin11 jY11_ok jnm11 (by decide) jw_390 rfl (Or.inl rfl) rfl rfl (jd jdt_Sp_init 84 rfl)) ?_
  exact J_some (fun hx => hR M45 hx _ _ (jd jdt_Sp_init 85 rfl))
end
theorem CD_Sp_init (l : Launch) (G : JG) (F : jF G = true) (a0 : Nat) (M : DM) {M' : DM} (hf : fd_Sp_init a0 M = some M') : jMet l jy_Sp_init jb_Sp_init 1 none 4 365 9007 G [.ref a0] M.length (dce G M) none M'.length (dce G M') :=
  j_met jo_Sp_init (by decide) (Nat.le_of_ble_eq_true rfl) (fun p e s m args below meth c C hr hm => KD_Sp_init C F (Nat.le_refl _) hm (Nat.le_refl _) (Nat.le_refl _) a0 M (fun t => t = M') (fun M' hX pc ls hd => by cases hX; exact w_vret C hr hd) _ hf rfl)
