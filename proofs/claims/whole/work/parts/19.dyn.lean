/-! ===== worlds that grow: constructors ===== -/
abbrev DM : Type := List (Nat × List Value)
def dI (v : Value) : Int32 := match v with
  | .int x => x
  | _ => 0
def dL (v : Value) : Int64 := match v with
  | .long x => x
  | _ => 0
def dR (G : JG) (v : Value) : Option Nat := match v with
  | .ref i => some (jad G i)
  | _ => none
def dcell (G : JG) (k : Nat) (vs : List Value) : va_E :=
  if k = 100 then .inl (jA G 0, vs.length, .inl (fun j => dI (vs.getD j (.int 0)))) else
  if k = 101 then .inl (jA G 1, vs.length, .inr (.inl (fun j => dL (vs.getD j (.long 0))))) else
  if k = 102 then .inl (jA G 2, vs.length, .inl (fun j => dI (vs.getD j (.int 0)))) else
  if k = 103 then .inl (jA G 3, vs.length, .inr (.inr (.inr (.inr (fun j => dR G (vs.getD j .null)))))) else
  .inr (k, vs.map (jV G))
def dce (G : JG) (M : DM) (i : Nat) : va_E := match M[i]? with
  | some q => dcell G q.1 q.2
  | none => .inr (99, [])
/-- a new object, a field's value, a new row, a place's value, new rows of rows -/
def dnew (M : DM) (k : Nat) (vs : List Value) : DM := M ++ [(k, vs)]
def dput (M : DM) (i k : Nat) (v : Value) : DM := M.set i ((M.getD i (99, [])).1, ((M.getD i (99, [])).2).set k v)
def drows (M : DM) (N K : Nat) : DM := (M ++ [(103, (List.range N).map (fun j => .ref (M.length + 1 + j)))]) ++ List.replicate N (100, List.replicate K (.int 0))
def dfld (M : DM) (i k : Nat) : Value := ((M.getD i (99, [])).2).getD k .null
def dkd (M : DM) (i : Nat) : Nat := (M.getD i (99, [])).1
theorem dget {M : DM} {i k : Nat} (h : dkd M i = k) (hk : k < 99 ∨ 99 < k) : M[i]? = some (k, (M.getD i (99, [])).2) ∧ i < M.length := by
  unfold dkd at h
  rw [List.getD_eq_getElem?_getD] at h ⊢
  cases hi : M[i]? with
  | none => rw [hi] at h; simp at h; omega
  | some q => rw [hi] at h; simp at h; subst h; exact ⟨rfl, (List.getElem?_eq_some_iff.mp hi).1⟩
theorem dce_o {G : JG} {M : DM} {i k : Nat} (h : dkd M i = k) (hk : k < 99) : dce G M i = .inr (k, ((M.getD i (99, [])).2).map (jV G)) := by
  unfold dce
  rw [(dget h (Or.inl hk)).1]
  show dcell G k _ = _
  unfold dcell
  rw [if_neg (by omega), if_neg (by omega), if_neg (by omega), if_neg (by omega)]
theorem dce_a {G : JG} {M : DM} {i k : Nat} (h : dkd M i = k) (hk : 99 < k) : dce G M i = dcell G k (M.getD i (99, [])).2 := by
  unfold dce
  rw [(dget h (Or.inr hk)).1]
theorem dce_set {G : JG} {M : DM} {i k : Nat} {vs : List Value} (hi : i < M.length) : (fun j => if j = i then dcell G k vs else dce G M j) = dce G (M.set i (k, vs)) := by
  funext j
  unfold dce
  rw [List.getElem?_set]
  by_cases h : j = i
  · subst h; rw [if_pos rfl, if_pos rfl, if_pos hi]
  · rw [if_neg h, if_neg (fun q => h q.symm)]
theorem dce_push {G : JG} {M : DM} {k : Nat} {vs : List Value} : ∀ j, j < M.length + 1 → (if j = M.length then dcell G k vs else dce G M j) = dce G (M ++ [(k, vs)]) j := by
  intro j hj
  unfold dce
  by_cases h : j = M.length
  · subst h; rw [if_pos rfl, List.getElem?_append_right (Nat.le_refl _), Nat.sub_self]; rfl
  · rw [if_neg h, List.getElem?_append_left (by omega)]
section
variable {p : Program} {l : Launch} {e : Env} {R : Room} {s : State} {m : MethodId} {args : Array Value} {below : List Frame} {meth : Method} {c : Code} {H : Heap} {locs : List Loc} {cells slots : Nat} {Q : State → Prop}
variable {cc : ByteArray} {pc : Nat} {ls : Array Slot} {rest : List Value} {D : va_G} {cl : List vw_C} {A : Nat → Prop} {a : Nat} {tys : List (ClassId × FieldType)} {ws : va_W} {H0 : Heap}
/-- stores that tell the heap's size -/
theorem x_put (hexec : p.tables.exec = Jvm.exec) (hb : c.code = cc) {own C : String} {T : u_T} {N ci index : Nat} {Ts : List Cond} (hts : ∀ w ∈ Ts, w.before args s = true) (hin : ∀ w ∈ u_ws C T N, w ∈ Ts) (ty0 : Nat → FieldType) (hty : ∀ k, k < N → parseFieldDescriptor (T k).2.2.1 = some (ty0 k)) (hnm : ∀ a, a < N → ∀ b, b < N → a ≠ b → (T a).2.1 ≠ (T b).2.1) (hown : s.vm.findClass own = some m.cls) (hK : va_K D cl tys s) (hP : va_P D cl ws H) (hD : va_D A ws) (hS0 : va_S A H0 H locs) (q0 : Nat) {fs : List Value} (he : ws[q0]? = some (a, .inr (ci, fs))) (hc : cl[ci]? = some (C, T, N)) (k : Nat) (hk : k < N) (hlink : (Cond.fieldLink own index C (T k).2.1 (T k).2.2.1).before args s = true) (hT : (T k).1 = C) (hfin : (T k).2.2.2 = false ∨ ((T k).2.2.2 = true ∧ meth.name = "<init>" ∧ C = own)) {v : Value} (hn : narrow (ty0 k) v = v) (hfit : fits (ty0 k) v = true) (hl : k < fs.length) (hdg : decode cc pc = .ok (.putfield index, 3))
    (kk : ∀ (H1 : Heap) (locs1 : List Loc), H1.size = H.size → va_P D cl (ws.set q0 (a, .inr (ci, fs.set k v))) H1 → va_S A H0 H1 locs1 → W p l e R s m args below meth c H1 locs1 cells slots Q (F0 m (pc + 3) ls rest)) : W p l e R s m args below meth c H locs cells slots Q (F0 m pc ls (v :: .ref a :: rest)) := by
  have hap := va_apart (own := own) hts hin ty0 hty hnm hK hc
  obtain ⟨r, h1, cell, q1, q2, q3, q4⟩ := hP q0 _ he
  have hr : r = (C, T, N) := Option.some.inj (h1.symm.trans hc)
  subst hr
  obtain ⟨hS, hfc, kC, hkC, hkind⟩ := hK.1 ci _ hc
  obtain ⟨cf, kf, fi, f, hi, hsl⟩ := hS k hk
  have hlay := hts _ (hin _ (u_in_lay hk))
  have hst := (u_facts hfc hkC (u_lays hts hin hk) hi).1
  have hi' : s.fieldFound? C (T k).2.1 (T k).2.2.1 = some (cf, kf, fi, f) := by rw [hT] at hi; exact hi
  have fin : ∀ H' : Heap, H'[a]? = some (cell.setSlot f.slot v) → H'.size = H.size → (∀ q, q ≠ a → H'[q]? = H[q]?) → W p l e R s m args below meth c H' (locs ++ [⟨a, f.slot⟩]) cells slots Q (F0 m (pc + 3) ls rest) := fun H' e1 e2 e3 => by
    rw [hsl] at e1 ⊢
    exact kk H' _ e2 (hP.set hD he ⟨_, hc, t_OB.to (V := updV (vp_V fs) k v) ⟨_, e1, q2, q3, t_set q4 hap hk v⟩ (fun j _ => vp_updV_set hl v j)⟩ e3) (hS0.put e2 e3 (hD.2 q0 _ he))
  rcases hfin with hfin | ⟨hfin, hin2, hdecl⟩
  · unfold u_lay at hlay
    rw [if_neg (by rw [hfin]; decide)] at hlay
    have h6 := u_store hfc hkC hkind hlay hi (hty k hk) hn hfit
    exact W.putK hexec hb (f := f) ⟨hown, hlink, ⟨_, _, _, hi'⟩, hst⟩ (by rw [q2]; exact h6) q1 q3 (by rw [hsl]; exact k2_hasslot (q4 k hk)) rfl rfl hdg fin
  · unfold u_lay at hlay
    rw [if_pos hfin] at hlay
    have hcf : m.cls = cf := by
      obtain ⟨_, _, c', _, _, _, -, -, hf', -, -, -, hown2, -⟩ := Cond.laysFinal_spec hlay
      have e1 : c' = cf := by have := hi.symm.trans hf'; simp at this; exact this.1.symm
      rw [hT, hdecl] at hown2
      rw [← e1]; exact Option.some.inj (hown.symm.trans hown2)
    have h6 := u_fits hfc hkC hkind (Or.inr hlay) hi (hty k hk) hn hfit
    exact W.putFinK hexec hb hown hlink hi' hst hcf hin2 (by rw [q2]; exact h6) q1 q3 (by rw [hsl]; exact k2_hasslot (q4 k hk)) rfl rfl hdg fin
theorem x_cast (hexec : p.tables.exec = Jvm.exec) (hb : c.code = cc) (hK : va_K D cl tys s) (hP : va_P D cl ws H) (hD : va_D A ws) (hS : va_S A H0 H locs) (q0 t0 : Nat) {cA : ClassId} {n : Nat} {f g : Nat → Int32} (ha : ws[q0]? = some (a, .inl (cA, n, .inl f))) (ht : tys[t0]? = some (cA, .char)) {i x : Int32} (hin : vp_in i n) (hg : g = upd f i.toNatClampNeg x) (hx : narrow .char (.int x) = .int x) (hdg : decode cc pc = .ok (.castore, 1))
    (kk : ∀ (H1 : Heap) (locs1 : List Loc), H1.size = H.size → va_P D cl (ws.set q0 (a, .inl (cA, n, .inl g))) H1 → va_S A H0 H1 locs1 → W p l e R s m args below meth c H1 locs1 cells slots Q (F0 m (pc + 1) ls rest)) : W p l e R s m args below meth c H locs cells slots Q (F0 m pc ls (.int x :: .int i :: .ref a :: rest)) := by
  subst hg
  refine W.cast hexec hb (hP q0 _ ha) ((hK.2 t0 _ ht).1 n (fun j => .int (f j))) (fun q => by cases q) (by show ¬ (i < 0 ∨ (arrV _ _ _).slots.size ≤ _); rw [arrV_size]; exact hin) rfl rfl hdg fun H1 e z oq => ?_
  refine kk H1 _ z (hP.set hD ha ?_ oq) (hS.put z oq (hD.2 q0 _ ha))
  show H1[a]? = some (vp_cell _ _)
  rw [e, vp_cell_i, vp_cell_i, arrV_store, hx]
  congr 2
  funext q
  by_cases hq : q = i.toNatClampNeg
  · subst hq; simp [updV, upd]
  · simp [updV, upd, hq]
theorem x_iast (hexec : p.tables.exec = Jvm.exec) (hb : c.code = cc) (hK : va_K D cl tys s) (hP : va_P D cl ws H) (hD : va_D A ws) (hS : va_S A H0 H locs) (q0 t0 : Nat) {cA : ClassId} {n : Nat} {f g : Nat → Int32} (ha : ws[q0]? = some (a, .inl (cA, n, .inl f))) (ht : tys[t0]? = some (cA, .int)) {i x : Int32} (hin : vp_in i n) (hg : g = upd f i.toNatClampNeg x) (hdg : decode cc pc = .ok (.iastore, 1))
    (kk : ∀ (H1 : Heap) (locs1 : List Loc), H1.size = H.size → va_P D cl (ws.set q0 (a, .inl (cA, n, .inl g))) H1 → va_S A H0 H1 locs1 → W p l e R s m args below meth c H1 locs1 cells slots Q (F0 m (pc + 1) ls rest)) : W p l e R s m args below meth c H locs cells slots Q (F0 m pc ls (.int x :: .int i :: .ref a :: rest)) := by
  subst hg
  refine W.iast hexec hb (hP q0 _ ha) ((hK.2 t0 _ ht).1 n (fun j => .int (f j))) (fun q => by cases q) (by show ¬ (i < 0 ∨ (arrV _ _ _).slots.size ≤ _); rw [arrV_size]; exact hin) rfl rfl hdg fun H1 e z oq => ?_
  refine kk H1 _ z (hP.set hD ha ?_ oq) (hS.put z oq (hD.2 q0 _ ha))
  show H1[a]? = some (vp_cell _ _)
  rw [e, vp_cell_i, vp_cell_i, arrV_store]
  congr 2
  funext q
  by_cases hq : q = i.toNatClampNeg
  · subst hq; simp [updV, upd]
  · simp [updV, upd, hq]
end
def dNew (M : DM) (k : Nat) (vs : List Value) : Option DM := if M.length < 999 then some (M ++ [(k, vs)]) else none
def dPut (M : DM) (i ci k : Nat) (v : Value) : Option DM := if dkd M i = ci ∧ k < (M.getD i (99, [])).2.length then some (M.set i (ci, ((M.getD i (99, [])).2).set k v)) else none
def dSet (M : DM) (a kd : Nat) (x : Int32) (v : Value) : Option DM := if dkd M a = kd ∧ ¬ (x < 0 ∨ (M.getD a (99, [])).2.length ≤ x.toNatClampNeg) then some (M.set a (kd, ((M.getD a (99, [])).2).set x.toNatClampNeg v)) else none
def dRows (M : DM) (N K : Nat) : Option DM := if M.length + N < 999 then some ((M ++ [(103, (List.range N).map (fun j => .ref (M.length + 1 + j)))]) ++ List.replicate N (100, List.replicate K (Value.int 0))) else none
def dGetR (M : DM) (i ci k : Nat) : Option Nat := if dkd M i = ci then match dfld M i k with
  | .ref j => some j
  | _ => none
  else none
def dLen (M : DM) (a kd : Nat) : Option Nat := if dkd M a = kd then some (M.getD a (99, [])).2.length else none
def dChk (M : DM) (i ci : Nat) : Option Unit := if dkd M i = ci then some () else none
theorem dPut_in {M M' : DM} {i ci k : Nat} {v : Value} (h : dPut M i ci k v = some M') : dkd M i = ci ∧ k < (M.getD i (99, [])).2.length ∧ M' = M.set i (ci, ((M.getD i (99, [])).2).set k v) := by
  unfold dPut at h; split at h
  · next q => exact ⟨q.1, q.2, (Option.some.inj h).symm⟩
  · cases h
theorem dSet_in {M M' : DM} {a kd : Nat} {x : Int32} {v : Value} (h : dSet M a kd x v = some M') : dkd M a = kd ∧ vp_in x (M.getD a (99, [])).2.length ∧ M' = M.set a (kd, ((M.getD a (99, [])).2).set x.toNatClampNeg v) := by
  unfold dSet at h; split at h
  · next q => exact ⟨q.1, q.2, (Option.some.inj h).symm⟩
  · cases h
theorem dNew_in {M M' : DM} {k : Nat} {vs : List Value} (h : dNew M k vs = some M') : M.length < 999 ∧ M' = M ++ [(k, vs)] := by
  unfold dNew at h; split at h
  · next q => exact ⟨q, (Option.some.inj h).symm⟩
  · cases h
theorem dLen_in {M : DM} {a kd n : Nat} (h : dLen M a kd = some n) : dkd M a = kd ∧ n = (M.getD a (99, [])).2.length := by
  unfold dLen at h; split at h
  · next q => exact ⟨q, (Option.some.inj h).symm⟩
  · cases h
theorem dChk_in {M : DM} {i ci : Nat} {u : Unit} (h : dChk M i ci = some u) : dkd M i = ci := by
  unfold dChk at h; split at h
  · next q => exact q
  · cases h
theorem dGetR_in {M : DM} {i ci k j : Nat} (h : dGetR M i ci k = some j) : dkd M i = ci ∧ dfld M i k = .ref j := by
  unfold dGetR at h; split at h
  · next q =>
    refine ⟨q, ?_⟩
    cases hf : dfld M i k <;> rw [hf] at h <;> first | (cases h; done) | (rw [Option.some.inj h])
  · cases h
theorem dRows_in {M M' : DM} {N K : Nat} (h : dRows M N K = some M') : M.length + N < 999 ∧ M' = (M ++ [(103, (List.range N).map (fun j => .ref (M.length + 1 + j)))]) ++ List.replicate N (100, List.replicate K (Value.int 0)) := by
  unfold dRows at h; split at h
  · next q => exact ⟨q, (Option.some.inj h).symm⟩
  · cases h
theorem jws_app {G : JG} {n : Nat} {ce ce' : Nat → va_E} {m : Nat} (h : ∀ i, i < n → ce i = ce' i) : jws G n ce ++ (List.range m).map (fun j => (jB G + (n + j), ce' (n + j))) = jws G (n + m) ce' := by
  rw [jws_congr h]
  unfold jws
  rw [show n + m = n + m from rfl, List.range_add, List.map_append, List.map_map]
  rfl
section
variable {p : Program} {l : Launch} {e : Env} {R : Room} {s : State} {m : MethodId} {args : Array Value} {below : List Frame} {meth : Method} {c : Code} {G : JG} {cc : ByteArray} {nL D : Nat} {own : String} {Q : State → Prop} {cells slots : Nat} {pc : Nat} {ls : List (Option Value)} {st : List Value} {M M' : DM}
theorem drep {H H1 : Heap} {locs1 : List Loc} (C : jCx p R s m args meth c G cc nL D own) (F : jF G = true) (hS1 : va_S (jAb G) s.heap H1 locs1) (hr : jRep G M.length (dce G M) H) (hz : H1.size = H.size) (hl : M'.length = M.length) (hP : va_P (jD G) jcl (jws G M'.length (dce G M')) H1) : jRep G M'.length (dce G M') H1 :=
  ⟨Nat.le_trans C.2.2.2.2.2.2.1 hS1.1, (fun _ => by rw [hz, hl]; exact hr.2.1 F), by rw [hl]; exact hr.2.2.1, hP⟩
theorem d_put {ci i k j N : Nat} {Cl : String} {T : u_T} {Y : Nat → FieldType} {v : Value} (C : jCx p R s m args meth c G cc nL D own) (F : jF G = true) (hM : dPut M i ci k v = some M') (hc : ci < 99) (hcl : jcl[ci]? = some (Cl, T, N)) (hin : ∀ w ∈ u_ws Cl T N, w ∈ jTW) (hY : ∀ k, k < N → parseFieldDescriptor (T k).2.2.1 = some (Y k)) (hnm : ∀ a, a < N → ∀ b, b < N → a ≠ b → (T a).2.1 ≠ (T b).2.1) (hkN : k < N) (hw : Cond.fieldLink own j Cl (T k).2.1 (T k).2.2.1 ∈ jTW) (hT : (T k).1 = Cl) (hfin : (T k).2.2.2 = false ∨ ((T k).2.2.2 = true ∧ meth.name = "<init>" ∧ Cl = own)) (hn : narrow (Y k) (jV G v) = jV G v) (hfit : fits (Y k) (jV G v) = true) (hdg : decode cc pc = .ok (.putfield j, 3)) (kk : Wk p l e R s m args below meth c G nL Q cells slots M'.length (dce G M') (pc + 3) ls st) : Wk p l e R s m args below meth c G nL Q cells slots M.length (dce G M) pc ls (v :: .ref i :: st) := by
  intro lsA H locs hl hr hS
  obtain ⟨h1, h2, rfl⟩ := dPut_in hM
  have hlt := (dget h1 (Or.inl hc)).2
  show W _ _ _ _ _ _ _ _ _ _ _ _ _ _ _ (F0 m pc lsA (jV G v :: .ref (jad G i) :: st.map (jV G)))
  rw [jad_lt (Nat.lt_of_lt_of_le hlt hr.2.2.1)]
  have he : (jws G M.length (dce G M))[i]? = some (jB G + i, .inr (ci, ((M.getD i (99, [])).2).map (jV G))) := by rw [jws_get hlt, dce_o h1 hc]
  refine x_put C.1 C.2.1 C.2.2.2.2.1 hin Y hY hnm C.2.2.2.1 C.2.2.2.2.2.1.1 hr.2.2.2 jws_D hS i he hcl k hkN (C.2.2.2.2.1 _ hw) hT hfin hn hfit (by rw [List.length_map]; exact h2) hdg (fun H1 locs1 hz hP hS1 => ?_)
  rw [jws_set, ← List.map_set] at hP
  have e9 : (fun a => if a = i then Sum.inr (ci, (((M.getD i (99, [])).2).set k v).map (jV G)) else dce G M a) = dce G (M.set i (ci, ((M.getD i (99, [])).2).set k v)) := by
    rw [← dce_set hlt]
    funext a
    by_cases h : a = i
    · rw [if_pos h, if_pos h]; unfold dcell; rw [if_neg (by omega), if_neg (by omega), if_neg (by omega), if_neg (by omega)]
    · rw [if_neg h, if_neg h]
  rw [e9] at hP
  exact kk lsA H1 locs1 hl (drep C F hS1 hr hz (List.length_set ..) (by rw [List.length_set]; exact hP)) hS1
theorem dupd {vs : List Value} {n : Nat} {x : Int32} (hn : n < vs.length) : (fun j => dI ((vs.set n (.int x)).getD j (.int 0))) = upd (fun j => dI (vs.getD j (.int 0))) n x := by
  funext j
  show dI _ = if j = n then x else dI (vs.getD j (.int 0))
  rw [List.getD_eq_getElem?_getD, List.getElem?_set, List.getD_eq_getElem?_getD]
  by_cases h : j = n
  · subst h; rw [if_pos rfl, if_pos hn, if_pos rfl]; rfl
  · rw [if_neg (fun q => h q.symm), if_neg h]
theorem d_cast {a : Nat} {i x : Int32} (C : jCx p R s m args meth c G cc nL D own) (F : jF G = true) (hM : dSet M a 102 i (.int x) = some M') (hx : narrow .char (.int x) = .int x) (hdg : decode cc pc = .ok (.castore, 1)) (kk : Wk p l e R s m args below meth c G nL Q cells slots M'.length (dce G M') (pc + 1) ls st) : Wk p l e R s m args below meth c G nL Q cells slots M.length (dce G M) pc ls (.int x :: .int i :: .ref a :: st) := by
  intro lsA H locs hl hr hS
  obtain ⟨h1, h2, rfl⟩ := dSet_in hM
  have hlt := (dget h1 (Or.inr (by decide))).2
  show W _ _ _ _ _ _ _ _ _ _ _ _ _ _ _ (F0 m pc lsA (.int x :: .int i :: .ref (jad G a) :: st.map (jV G)))
  rw [jad_lt (Nat.lt_of_lt_of_le hlt hr.2.2.1)]
  have hlen : i.toNatClampNeg < (M.getD a (99, [])).2.length := Nat.not_le.mp fun q => h2 (Or.inr q)
  have he : (jws G M.length (dce G M))[a]? = some (jB G + a, .inl (jA G 2, (M.getD a (99, [])).2.length, .inl (fun j => dI ((M.getD a (99, [])).2.getD j (.int 0))))) := by rw [jws_get hlt, dce_a h1 (by decide)]; rfl
  refine x_cast C.1 C.2.1 C.2.2.2.2.2.1.1 hr.2.2.2 jws_D hS a 2 he rfl h2 (dupd hlen) hx hdg (fun H1 locs1 hz hP hS1 => ?_)
  rw [jws_set] at hP
  have e9 : (fun b => if b = a then Sum.inl (jA G 2, (M.getD a (99, [])).2.length, Sum.inl (fun j => dI ((((M.getD a (99, [])).2).set i.toNatClampNeg (.int x)).getD j (.int 0)))) else dce G M b) = dce G (M.set a (102, ((M.getD a (99, [])).2).set i.toNatClampNeg (.int x))) := by
    rw [← dce_set hlt]
    funext b
    by_cases h : b = a
    · rw [if_pos h, if_pos h]; unfold dcell; rw [if_neg (by decide), if_neg (by decide), if_pos rfl, List.length_set]
    · rw [if_neg h, if_neg h]
  rw [e9] at hP
  exact kk lsA H1 locs1 hl (drep C F hS1 hr hz (List.length_set ..) (by rw [List.length_set]; exact hP)) hS1
theorem d_iast {a : Nat} {i x : Int32} (C : jCx p R s m args meth c G cc nL D own) (F : jF G = true) (hM : dSet M a 100 i (.int x) = some M') (hdg : decode cc pc = .ok (.iastore, 1)) (kk : Wk p l e R s m args below meth c G nL Q cells slots M'.length (dce G M') (pc + 1) ls st) : Wk p l e R s m args below meth c G nL Q cells slots M.length (dce G M) pc ls (.int x :: .int i :: .ref a :: st) := by
  intro lsA H locs hl hr hS
  obtain ⟨h1, h2, rfl⟩ := dSet_in hM
  have hlt := (dget h1 (Or.inr (by decide))).2
  show W _ _ _ _ _ _ _ _ _ _ _ _ _ _ _ (F0 m pc lsA (.int x :: .int i :: .ref (jad G a) :: st.map (jV G)))
  rw [jad_lt (Nat.lt_of_lt_of_le hlt hr.2.2.1)]
  have hlen : i.toNatClampNeg < (M.getD a (99, [])).2.length := Nat.not_le.mp fun q => h2 (Or.inr q)
  have he : (jws G M.length (dce G M))[a]? = some (jB G + a, .inl (jA G 0, (M.getD a (99, [])).2.length, .inl (fun j => dI ((M.getD a (99, [])).2.getD j (.int 0))))) := by rw [jws_get hlt, dce_a h1 (by decide)]; rfl
  refine x_iast C.1 C.2.1 C.2.2.2.2.2.1.1 hr.2.2.2 jws_D hS a 0 he rfl h2 (dupd hlen) hdg (fun H1 locs1 hz hP hS1 => ?_)
  rw [jws_set] at hP
  have e9 : (fun b => if b = a then Sum.inl (jA G 0, (M.getD a (99, [])).2.length, Sum.inl (fun j => dI ((((M.getD a (99, [])).2).set i.toNatClampNeg (.int x)).getD j (.int 0)))) else dce G M b) = dce G (M.set a (100, ((M.getD a (99, [])).2).set i.toNatClampNeg (.int x))) := by
    rw [← dce_set hlt]
    funext b
    by_cases h : b = a
    · rw [if_pos h, if_pos h]; unfold dcell; rw [if_pos rfl, List.length_set]
    · rw [if_neg h, if_neg h]
  rw [e9] at hP
  exact kk lsA H1 locs1 hl (drep C F hS1 hr hz (List.length_set ..) (by rw [List.length_set]; exact hP)) hS1
theorem d_getR {ci i k j N v : Nat} {Cl : String} {T : u_T} (C : jCx p R s m args meth c G cc nL D own) (hM : dGetR M i ci k = some v) (hc : ci < 99) (hcl : jcl[ci]? = some (Cl, T, N)) (hin : ∀ w ∈ u_ws Cl T N, w ∈ jTW) (hkN : k < N) (hw : Cond.fieldLink own j Cl (T k).2.1 (T k).2.2.1 ∈ jTW) (hT : (T k).1 = Cl) (hdg : decode cc pc = .ok (.getfield j, 3)) (kk : Wk p l e R s m args below meth c G nL Q cells slots M.length (dce G M) (pc + 3) ls (.ref v :: st)) : Wk p l e R s m args below meth c G nL Q cells slots M.length (dce G M) pc ls (.ref i :: st) := by
  intro lsA H locs hl hr hS
  obtain ⟨h1, h2⟩ := dGetR_in hM
  have hlt := (dget h1 (Or.inl hc)).2
  show W _ _ _ _ _ _ _ _ _ _ _ _ _ _ _ (F0 m pc lsA (.ref (jad G i) :: st.map (jV G)))
  rw [jad_lt (Nat.lt_of_lt_of_le hlt hr.2.2.1)]
  have he : (jws G M.length (dce G M))[i]? = some (jB G + i, .inr (ci, ((M.getD i (99, [])).2).map (jV G))) := by rw [jws_get hlt, dce_o h1 hc]
  have hv : (((M.getD i (99, [])).2).map (jV G))[k]? = some (jV G (.ref v)) := by
    unfold dfld at h2
    rw [List.getD_eq_getElem?_getD] at h2
    rw [List.getElem?_map]
    cases h3 : ((M.getD i (99, [])).2)[k]? with
    | none => rw [h3] at h2; cases h2
    | some z => rw [h3] at h2; rw [show z = .ref v from h2]; rfl
  exact va_get C.1 C.2.1 C.2.2.2.2.1 hin C.2.2.2.1 C.2.2.2.2.2.1.1 hr.2.2.2 i he hcl k hkN (C.2.2.2.2.1 _ hw) (fun x hx => by rw [hT] at hx; exact hx) hv hdg (kk lsA H locs hl hr hS)
theorem d_alen {a n : Nat} (C : jCx p R s m args meth c G cc nL D own) (hM : dLen M a 100 = some n) (hdg : decode cc pc = .ok (.arraylength, 1)) (kk : Wk p l e R s m args below meth c G nL Q cells slots M.length (dce G M) (pc + 1) ls (.int (nI n) :: st)) : Wk p l e R s m args below meth c G nL Q cells slots M.length (dce G M) pc ls (.ref a :: st) := by
  intro lsA H locs hl hr hS
  obtain ⟨h1, rfl⟩ := dLen_in hM
  have hlt := (dget h1 (Or.inr (by decide))).2
  show W _ _ _ _ _ _ _ _ _ _ _ _ _ _ _ (F0 m pc lsA (.ref (jad G a) :: st.map (jV G)))
  rw [jad_lt (Nat.lt_of_lt_of_le hlt hr.2.2.1)]
  have he : (jws G M.length (dce G M))[a]? = some (jB G + a, .inl (jA G 0, (M.getD a (99, [])).2.length, .inl (fun j => dI ((M.getD a (99, [])).2.getD j (.int 0))))) := by rw [jws_get hlt, dce_a h1 (by decide)]; rfl
  exact va_alen C.1 C.2.1 C.2.2.2.2.2.1.1 hr.2.2.2 a 0 he rfl rfl hdg (kk lsA H locs hl hr hS)
theorem d_objInit {i b : Nat} (C : jCx p R s m args meth c G cc nL D own) (hw : Cond.methodLink own i objectInit ∈ jTW) (hst : Nat.ble (st.map fun v => v.category).sum 8 = true) (hdg : decode cc pc = .ok (.invokespecial i, 3)) (kk : Wk p l e R s m args below meth c G nL Q cells slots M.length (dce G M) (pc + 3) ls st) : Wk p l e R s m args below meth c G nL Q cells slots M.length (dce G M) pc ls (.ref b :: st) := by
  intro lsA H locs hl hr hS
  have h1 := C.2.2.2.2.2.2.2.2.1
  have h2 := C.2.2.2.2.2.2.2.2.2.1
  have h3 := C.2.2.2.2.2.2.2.2.2.2
  exact W.objInit C.1 C.2.1 C.2.2.2.1 (C.2.2.2.2.1 _ hw) (C.2.2.2.2.1 _ jw_27) (C.2.2.2.2.1 _ jw_28) (g := F0 m pc lsA (.ref (jad G b) :: st.map (jV G))) rfl (by rw [C.2.2.1]; exact hl.1) rfl hdg (by omega) (by
    have := lv_room (m := m) (pc := pc) (ls := lsA) (rest := (.ref (jad G b) :: st.map (jV G))) (st := st.map (jV G)) (by rw [jV_cats]; exact Nat.le_of_ble_eq_true hst)
    omega) (kk lsA H locs hl hr hS)
theorem d_new {ci j N : Nat} {Cl : String} {T : u_T} {Y : Nat → FieldType} {vs : List Value} (C : jCx p R s m args meth c G cc nL D own) (F : jF G = true) (hM : dNew M ci vs = some M') (hc : ci < 99) (hcl : jcl[ci]? = some (Cl, T, N)) (hin : ∀ w ∈ u_ws Cl T N, w ∈ jTW) (hY : ∀ k, k < N → parseFieldDescriptor (T k).2.2.1 = some (Y k)) (hw : Cond.classLink own j Cl ∈ jTW) (hi : Cond.instantiable Cl N ∈ jTW) (hini : Cond.initialized Cl ∈ jTW) (hfs : ∀ k, k < N → defaultValue (Y k) = vp_V (vs.map (jV G)) k) (hcells : cells + 1 ≤ R.cells) (hslots : slots + N ≤ R.slots) (hdg : decode cc pc = .ok (.new j, 3)) (kk : Wk p l e R s m args below meth c G nL Q (cells + 1) (slots + N) M'.length (dce G M') (pc + 3) ls (.ref M.length :: st)) : Wk p l e R s m args below meth c G nL Q cells slots M.length (dce G M) pc ls st := by
  intro lsA H locs hl hr hS
  obtain ⟨h1, rfl⟩ := dNew_in hM
  have hKn := C.2.2.2.2.2.1.1.1 ci _ hcl
  refine W.newcK (g := F0 m pc lsA (st.map (jV G))) C.1 C.2.1 C.2.2.2.1 (C.2.2.2.2.1 _ hw) (C.2.2.2.2.1 _ hi) (C.2.2.2.2.1 _ hini) rfl hdg hcells hslots hKn.2.1 (hr.2.1 F) fun H1 kC hkC e1 z1 o1 => ?_
  have hk : ∀ (k : Nat) (x : Nat × va_E), (jws G M.length (dce G M))[k]? = some x → H1[x.1]? = H[x.1]? := fun k x hx => by
    have := (hr.2.2.2 k x hx).lt
    rw [hr.2.1 F] at this
    exact o1 x.1 this
  have hP1 : va_P (jD G) jcl (jws G M.length (dce G M) ++ [(jB G + M.length, .inr (ci, vs.map (jV G)))]) H1 := (hr.2.2.2.kept hk).app (fun k x hx => by
    have hz : k < 1 := (List.getElem?_eq_some_iff.mp hx).1
    rw [show k = 0 by omega] at hx
    cases hx
    exact ⟨_, hcl, (u_born Y C.2.2.2.2.1 hin hKn hkC e1 hY).to hfs⟩)
  rw [jws_push] at hP1
  have e8 : dcell G ci vs = .inr (ci, vs.map (jV G)) := by unfold dcell; rw [if_neg (by omega), if_neg (by omega), if_neg (by omega), if_neg (by omega)]
  rw [← e8, jws_congr (fun i hi => dce_push i hi)] at hP1
  have hb := C.2.2.2.2.2.2.1
  have k2 := kk lsA H1 locs hl ⟨by omega, fun _ => by rw [z1, List.length_append]; rfl, by rw [List.length_append]; show M.length + 1 ≤ 1000; omega, by rw [List.length_append]; exact hP1⟩ ⟨by have := hS.1; have := hr.2.1 F; omega, fun q q1 q2 => (o1 q (by have := hS.1; have := hr.2.1 F; omega)).trans (hS.2.1 q q1 q2), hS.2.2⟩
  have e9 : (Value.ref M.length :: st).map (jV G) = .ref (jB G + M.length) :: st.map (jV G) := by show Value.ref (jad G _) :: _ = _; rw [jad_lt (by omega)]
  rw [e9] at k2
  exact k2
theorem d_newa {k N : Nat} {at_ : ArrayType} {ty : FieldType} {v : Int32} {z : Value} (C : jCx p R s m args meth c G cc nL D own) (F : jF G = true) (hM : dNew M k (List.replicate N z) = some M') (hw : Cond.arrayClass (newarray.typeOf at_) ∈ jTW) (ht : newarray.typeOf at_ = ty) (hkz : (k = 100 ∧ ty = .int ∧ z = .int 0) ∨ (k = 101 ∧ ty = .long ∧ z = .long 0) ∨ (k = 102 ∧ ty = .char ∧ z = .int 0)) (hv : ¬ v < 0) (hN : v.toNatClampNeg = N) (hb : N ≤ 20000) (hcells : cells + 1 ≤ R.cells) (hslots : slots + N ≤ R.slots) (hdg : decode cc pc = .ok (.newarray at_, 2)) (kk : Wk p l e R s m args below meth c G nL Q (cells + 1) (slots + N) M'.length (dce G M') (pc + 2) ls (.ref M.length :: st)) : Wk p l e R s m args below meth c G nL Q cells slots M.length (dce G M) pc ls (.int v :: st) := by
  intro lsA H locs hl hr hS
  obtain ⟨h1, rfl⟩ := dNew_in hM
  subst ht
  have hbytes : N * componentBytes (newarray.typeOf at_) ≤ 536870912 := by
    have : componentBytes (newarray.typeOf at_) ≤ 8 := by cases at_ <;> decide
    exact Nat.le_trans (Nat.mul_le_mul hb this) (by decide)
  refine va_newaK (g := F0 m pc lsA (.int v :: st.map (jV G))) C.1 C.2.1 (C.2.2.2.2.1 _ hw) rfl hdg rfl hv hN hbytes hcells hslots (hr.2.1 F) fun H1 cA e1 z1 o1 hAr hNm => ?_
  have hk : ∀ (k : Nat) (x : Nat × va_E), (jws G M.length (dce G M))[k]? = some x → H1[x.1]? = H[x.1]? := fun k x hx => by
    have := (hr.2.2.2 k x hx).lt
    rw [hr.2.1 F] at this
    exact o1 x.1 this
  have hdc : H1[jB G + M.length]? = some (match dcell G k (List.replicate N z) with | .inl a => vp_cell a.1 a.2 | .inr _ => { cls := 0, slots := #[], vm := .none }) ∧ ∃ a, dcell G k (List.replicate N z) = .inl a := by
    have hK := C.2.2.2.2.2.1.1.2
    rcases hkz with ⟨rfl, ht, rfl⟩ | ⟨rfl, ht, rfl⟩ | ⟨rfl, ht, rfl⟩
    · have hA : cA = jA G 0 := by have h9 := (hK 0 _ rfl).2; rw [ht] at hNm; exact Option.some.inj (hNm.symm.trans h9)
      refine ⟨?_, _, rfl⟩
      rw [e1, ht, hA]
      show some _ = some (vp_cell (jA G 0) ((List.replicate N (Value.int 0)).length, .inl (fun j => dI ((List.replicate N (Value.int 0)).getD j (.int 0)))))
      rw [vp_cell_i, List.length_replicate]
      refine congrArg some (congrArg (arrV _ N) (funext fun j => ?_))
      rw [List.getD_eq_getElem?_getD, List.getElem?_replicate]
      split <;> rfl
    · have hA : cA = jA G 1 := by have h9 := (hK 1 _ rfl).2; rw [ht] at hNm; exact Option.some.inj (hNm.symm.trans h9)
      refine ⟨?_, _, rfl⟩
      rw [e1, ht, hA]
      show some _ = some (vp_cell (jA G 1) ((List.replicate N (Value.long 0)).length, .inr (.inl (fun j => dL ((List.replicate N (Value.long 0)).getD j (.long 0))))))
      rw [vp_cell_l, List.length_replicate]
      refine congrArg some (congrArg (arrV _ N) (funext fun j => ?_))
      rw [List.getD_eq_getElem?_getD, List.getElem?_replicate]
      split <;> rfl
    · have hA : cA = jA G 2 := by have h9 := (hK 2 _ rfl).2; rw [ht] at hNm; exact Option.some.inj (hNm.symm.trans h9)
      refine ⟨?_, _, rfl⟩
      rw [e1, ht, hA]
      show some _ = some (vp_cell (jA G 2) ((List.replicate N (Value.int 0)).length, .inl (fun j => dI ((List.replicate N (Value.int 0)).getD j (.int 0)))))
      rw [vp_cell_i, List.length_replicate]
      refine congrArg some (congrArg (arrV _ N) (funext fun j => ?_))
      rw [List.getD_eq_getElem?_getD, List.getElem?_replicate]
      split <;> rfl
  obtain ⟨hd1, a9, ha9⟩ := hdc
  have hP1 : va_P (jD G) jcl (jws G M.length (dce G M) ++ [(jB G + M.length, dcell G k (List.replicate N z))]) H1 := (hr.2.2.2.kept hk).app (fun k x hx => by
    have hz : k < 1 := (List.getElem?_eq_some_iff.mp hx).1
    rw [show k = 0 by omega] at hx
    cases hx
    rw [ha9] at hd1 ⊢
    exact hd1)
  rw [jws_push, jws_congr (fun i hi => dce_push i hi)] at hP1
  have k2 := kk lsA H1 locs hl ⟨by have := C.2.2.2.2.2.2.1; omega, fun _ => by rw [z1, List.length_append]; rfl, by rw [List.length_append]; show M.length + 1 ≤ 1000; omega, by rw [List.length_append]; exact hP1⟩ ⟨by have := hS.1; have := hr.2.1 F; omega, fun q q1 q2 => (o1 q (by have := hS.1; have := hr.2.1 F; omega)).trans (hS.2.1 q q1 q2), hS.2.2⟩
  have e9 : (Value.ref M.length :: st).map (jV G) = .ref (jB G + M.length) :: st.map (jV G) := by show Value.ref (jad G _) :: _ = _; rw [jad_lt (by omega)]
  rw [e9] at k2
  exact k2
theorem darr_congr {cA : ClassId} {N : Nat} {f g : Nat → Value} (h : ∀ j, j < N → f j = g j) : arrV cA N f = arrV cA N g := by
  unfold arrV
  have e : (Array.ofFn (n := N) fun j => f j.val) = Array.ofFn (n := N) fun j => g j.val := congrArg (Array.ofFn (n := N)) (funext fun ⟨j, hj⟩ => h j hj)
  rw [e]
theorem dmul_outer (cA : ClassId) (N h0 : Nat) : ∀ i : Nat, Jvm.Free.Multi.outerC cA N h0 i = arrV cA N (fun j => va_rf (if j < i then some (h0 + 1 + j) else none))
  | 0 => by
    show ({ cls := cA, slots := Array.replicate N .null, vm := .none } : Cell) = _
    rw [arrV_new]
    exact congrArg (arrV cA N) (funext fun j => by rw [if_neg (Nat.not_lt_zero j)]; rfl)
  | i + 1 => by
    show (Jvm.Free.Multi.outerC cA N h0 i).setSlot i (.ref (h0 + 1 + i)) = _
    rw [dmul_outer cA N h0 i, arrV_store]
    refine congrArg (arrV cA N) (funext fun j => ?_)
    show (if j = i then _ else _) = _
    by_cases e : j = i
    · subst e; rw [if_pos rfl, if_pos (Nat.lt_succ_self _)]; rfl
    · rw [if_neg e]
      show va_rf (if j < i then some (h0 + 1 + j) else none) = va_rf (if j < i + 1 then some (h0 + 1 + j) else none)
      by_cases h : j < i
      · rw [if_pos h, if_pos (Nat.lt_succ_of_lt h)]
      · rw [if_neg h, if_neg (by omega)]
theorem d_rows {j N K : Nat} {n k : Int32} (C : jCx p R s m args meth c G cc nL D own) (F : jF G = true) (hM : dRows M N K = some M') (hw : Cond.classLink own j "[[I" ∈ jTW) (hn : ¬ n < 0) (hk : ¬ k < 0) (hN : n.toNatClampNeg = N) (hK : k.toNatClampNeg = K) (hNb : N ≤ 1000) (hKb : K ≤ 1000) (hcells : cells + (1 + N) ≤ R.cells) (hslots : slots + (N + N * K) ≤ R.slots) (hdg : decode cc pc = .ok (.multianewarray j 2, 4)) (kk : Wk p l e R s m args below meth c G nL Q (cells + (1 + N)) (slots + (N + N * K)) M'.length (dce G M') (pc + 4) ls (.ref M.length :: st)) : Wk p l e R s m args below meth c G nL Q cells slots M.length (dce G M) pc ls (.int k :: .int n :: st) := by
  intro lsA H locs hl hr hS
  obtain ⟨h1, rfl⟩ := dRows_in hM
  intro T hT Xs
  subst hN; subst hK
  obtain ⟨vm₁, cA, comp, -, fA, fC, hO, hI, X', step⟩ := Xs.multianewarray2F C.1 (own := own) (index := j) (ty := FieldType.int) C.2.2.2.1 (C.2.2.2.2.1 _ hw) (C.2.2.2.2.2.1.2.2.2.2.1) (C.2.2.2.2.1 _ jw_45) (g := F0 m pc lsA (.int k :: .int n :: st.map (jV G))) rfl (by rw [C.2.1]; exact hdg) rfl hn hk (by omega) (by show k.toNatClampNeg * 4 ≤ _; omega) (by omega) rfl rfl hcells hslots
  have hKt := C.2.2.2.2.2.1.1.2
  have hA3 : cA = jA G 3 := Option.some.inj (fA.symm.trans (hKt 3 _ rfl).2)
  have hA0 : comp = jA G 0 := Option.some.inj (fC.symm.trans (hKt 0 _ rfl).2)
  subst hA3; subst hA0
  generalize hF : Jvm.Free.Multi.fill (T.setVm vm₁) (jA G 3) (jA G 0) n.toNatClampNeg k.toNatClampNeg (defaultValue FieldType.int) n.toNatClampNeg = Fs at X' step
  have hTh : (T.setVm vm₁).heap = H := hT
  obtain ⟨f1, f2, -, -⟩ := Jvm.Free.Multi.fill_facts (T.setVm vm₁) (jA G 3) (jA G 0) n.toNatClampNeg k.toNatClampNeg (defaultValue FieldType.int) n.toNatClampNeg
  rw [hF, hTh] at f1 f2
  have hold : ∀ x : Nat, x < H.size → Fs.heap[x]? = H[x]? := fun x hx => by
    have := Jvm.Free.Multi.fill_old (T.setVm vm₁) (jA G 3) (jA G 0) n.toNatClampNeg k.toNatClampNeg (defaultValue FieldType.int) (a := x) (by rw [hTh]; exact hx) n.toNatClampNeg
    rw [hF, hTh] at this
    exact this
  have hrow : ∀ j : Nat, j < n.toNatClampNeg → Fs.heap[H.size + 1 + j]? = some (Jvm.Free.Multi.innerC (jA G 0) k.toNatClampNeg (defaultValue FieldType.int)) := fun j hj => by
    have := Jvm.Free.Multi.fill_inner (T.setVm vm₁) (jA G 3) (jA G 0) n.toNatClampNeg k.toNatClampNeg (defaultValue FieldType.int) n.toNatClampNeg j hj
    rw [hF, hTh] at this
    exact this
  have hsz := hr.2.1 F
  generalize hNN : n.toNatClampNeg = N at *
  generalize hKK : k.toNatClampNeg = K at *
  have hP1 : va_P (jD G) jcl (jws G ((M ++ [(103, (List.range N).map (fun j => Value.ref (M.length + 1 + j)))]) ++ List.replicate N (100, List.replicate K (Value.int 0))).length (dce G ((M ++ [(103, (List.range N).map (fun j => Value.ref (M.length + 1 + j)))]) ++ List.replicate N (100, List.replicate K (Value.int 0))))) Fs.heap := by
    intro i q hq
    obtain ⟨hi, rfl⟩ := jws_of hq
    rw [List.length_append, List.length_append, List.length_replicate] at hi
    simp only [List.length_cons, List.length_nil] at hi
    show va_at _ _ (jB G + i, dce G _ i) _
    by_cases c1 : i < M.length
    · have h9 := hr.2.2.2 i _ (jws_get c1)
      have e9 : dce G ((M ++ [(103, (List.range N).map (fun j => Value.ref (M.length + 1 + j)))]) ++ List.replicate N (100, List.replicate K (Value.int 0))) i = dce G M i := by
        unfold dce; rw [List.append_assoc, List.getElem?_append_left c1]
      rw [e9]
      exact h9.kept (hold _ (by rw [hsz]; show jB G + i < _; omega))
    · by_cases c2 : i = M.length
      · subst c2
        have e9 : dce G ((M ++ [(103, (List.range N).map (fun j => Value.ref (M.length + 1 + j)))]) ++ List.replicate N (100, List.replicate K (Value.int 0))) M.length = dcell G 103 ((List.range N).map (fun j => Value.ref (M.length + 1 + j))) := by
          unfold dce; rw [List.append_assoc, List.getElem?_append_right (Nat.le_refl _), Nat.sub_self]; rfl
        rw [e9]
        show Fs.heap[jB G + M.length]? = some (vp_cell (jA G 3) (((List.range N).map (fun j => Value.ref (M.length + 1 + j))).length, .inr (.inr (.inr (.inr (fun j => dR G (((List.range N).map (fun j => Value.ref (M.length + 1 + j))).getD j .null)))))))
        rw [← hsz, f2, dmul_outer, vp_cell_q, List.length_map, List.length_range]
        refine congrArg some (darr_congr fun j hj => ?_)
        show va_rf (if j < N then some (H.size + 1 + j) else none) = va_rf (dR G _)
        rw [if_pos hj, List.getD_eq_getElem?_getD, List.getElem?_map, List.getElem?_range hj]
        show _ = va_rf (some (jad G (M.length + 1 + j)))
        rw [jad_lt (by omega), hsz]
        congr 2
        omega
      · have e9 : dce G ((M ++ [(103, (List.range N).map (fun j => Value.ref (M.length + 1 + j)))]) ++ List.replicate N (100, List.replicate K (Value.int 0))) i = dcell G 100 (List.replicate K (.int 0)) := by
          unfold dce
          rw [List.getElem?_append_right (by rw [List.length_append]; simp only [List.length_cons, List.length_nil]; omega), List.getElem?_replicate, if_pos (by rw [List.length_append]; simp only [List.length_cons, List.length_nil]; omega)]
        rw [e9]
        have h9 := hrow (i - M.length - 1) (by omega)
        rw [show H.size + 1 + (i - M.length - 1) = jB G + i by omega] at h9
        show Fs.heap[jB G + i]? = some (vp_cell (jA G 0) ((List.replicate K (Value.int 0)).length, .inl (fun j => dI ((List.replicate K (Value.int 0)).getD j (.int 0)))))
        rw [h9]
        refine congrArg some ?_
        show ({ cls := jA G 0, slots := Array.replicate K (.int 0), vm := .none } : Cell) = _
        rw [arrV_new, vp_cell_i, List.length_replicate]
        refine congrArg (arrV _ K) (funext fun j => ?_)
        rw [List.getD_eq_getElem?_getD, List.getElem?_replicate]
        split <;> rfl
  have hlen : ((M ++ [(103, (List.range N).map (fun j => Value.ref (M.length + 1 + j)))]) ++ List.replicate N (100, List.replicate K (Value.int 0))).length = M.length + 1 + N := by
    rw [List.length_append, List.length_append, List.length_replicate]; rfl
  have hb := C.2.2.2.2.2.2.1
  obtain ⟨t, a1, b1⟩ := kk lsA Fs.heap locs hl ⟨by rw [f1]; omega, fun _ => by rw [f1, hlen, hsz]; omega, by rw [hlen]; omega, hP1⟩ ⟨by rw [f1]; have := hS.1; omega, fun q q1 q2 => (hold q (by have := hS.1; omega)).trans (hS.2.1 q q1 q2), hS.2.2⟩ Fs rfl (by rw [← Nat.add_assoc, ← Nat.add_assoc]; exact X')
  refine ⟨t, step t ?_, b1⟩
  have e9 : (Value.ref M.length :: st).map (jV G) = .ref T.heap.size :: st.map (jV G) := by show Value.ref (jad G _) :: _ = _; rw [jad_lt (by omega), hT, hsz]
  rw [e9] at a1
  exact a1
end
