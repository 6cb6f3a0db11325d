/-! ===== the static world: numbers in its cells; kinds, lengths and references are fixed ===== -/
abbrev SM : Type := (Nat → Nat → Int32) × (Nat → Nat → Int64)
def jsh (i : Nat) : Nat × Nat := jshl.getD i (999, 0)
def jpf (i j : Nat) : Nat := (jpfl.getD i []).getD j 0
def jln (a : Nat) : Nat := (jsh a).2
abbrev jkd (i k : Nat) : Prop := i < jN0 ∧ (jsh i).1 = k
/-- a reference to an opera that changes is kept as a number -/
def jop (x : Int32) : Nat := if x = 0 then 7 else 57
def jopn (o : Nat) : Int32 := if o = 7 then 0 else 1
def sI (M : SM) (i k : Nat) (v : Int32) : SM := (fun a b => if a = i then (if b = k then v else M.1 a b) else M.1 a b, M.2)
def sL (M : SM) (i k : Nat) (v : Int64) : SM := (M.1, fun a b => if a = i then (if b = k then v else M.2 a b) else M.2 a b)
def aI (M : SM) (a : Nat) (x : Int32) : Option Int32 := if x < 0 ∨ jln a ≤ x.toNatClampNeg then none else some (M.1 a x.toNatClampNeg)
def aS (M : SM) (a : Nat) (x v : Int32) : Option SM := if x < 0 ∨ jln a ≤ x.toNatClampNeg then none else some (sI M a x.toNatClampNeg v)
def aL (M : SM) (a : Nat) (x : Int32) : Option Int64 := if x < 0 ∨ jln a ≤ x.toNatClampNeg then none else some (M.2 a x.toNatClampNeg)
def aSL (M : SM) (a : Nat) (x : Int32) (v : Int64) : Option SM := if x < 0 ∨ jln a ≤ x.toNatClampNeg then none else some (sL M a x.toNatClampNeg v)
def aR (a : Nat) (x : Int32) : Option Nat := if x < 0 ∨ jln a ≤ x.toNatClampNeg then none else some (jpf a x.toNatClampNeg)
def jfv (G : JG) (M : SM) (ci i j : Nat) : Value := if jft ci j = 0 then .int (M.1 i j) else if jft ci j = 1 then .long (M.2 i j) else if jft ci j = 2 then .ref (jB G + jpf i j) else .ref (jB G + jop (M.1 i j))
def jce (G : JG) (M : SM) (i : Nat) : va_E :=
  if (jsh i).1 = 100 then .inl (jA G 0, jln i, .inl (M.1 i)) else
  if (jsh i).1 = 101 then .inl (jA G 1, jln i, .inr (.inl (M.2 i))) else
  if (jsh i).1 = 102 then .inl (jA G 2, jln i, .inl (M.1 i)) else
  if (jsh i).1 = 103 then .inl (jA G 3, jln i, .inr (.inr (.inr (.inr (fun j => some (jB G + jpf i j)))))) else
  .inr ((jsh i).1, (List.range (jnf (jsh i).1)).map (jfv G M (jsh i).1 i))
theorem jce_o {G : JG} {M : SM} {i ci : Nat} (hk : jkd i ci) (hc : ci < 100) : jce G M i = .inr (ci, (List.range (jnf ci)).map (jfv G M ci i)) := by
  unfold jce
  rw [hk.2, if_neg (by omega), if_neg (by omega), if_neg (by omega), if_neg (by omega)]
theorem jce_i {G : JG} {M : SM} {i : Nat} (hk : jkd i 100) : jce G M i = .inl (jA G 0, jln i, .inl (M.1 i)) := by unfold jce; rw [if_pos hk.2]
theorem jce_l {G : JG} {M : SM} {i : Nat} (hk : jkd i 101) : jce G M i = .inl (jA G 1, jln i, .inr (.inl (M.2 i))) := by unfold jce; rw [if_neg (by rw [hk.2]; omega), if_pos hk.2]
theorem jce_c {G : JG} {M : SM} {i : Nat} (hk : jkd i 102) : jce G M i = .inl (jA G 2, jln i, .inl (M.1 i)) := by unfold jce; rw [if_neg (by rw [hk.2]; omega), if_neg (by rw [hk.2]; omega), if_pos hk.2]
theorem jce_r {G : JG} {M : SM} {i : Nat} (hk : jkd i 103) : jce G M i = .inl (jA G 3, jln i, .inr (.inr (.inr (.inr (fun j => some (jB G + jpf i j)))))) := by unfold jce; rw [if_neg (by rw [hk.2]; omega), if_neg (by rw [hk.2]; omega), if_neg (by rw [hk.2]; omega), if_pos hk.2]
theorem jws_o {G : JG} {M : SM} {i ci : Nat} (hk : jkd i ci) (hc : ci < 100) : (jws G jN0 (jce G M))[i]? = some (jB G + i, .inr (ci, (List.range (jnf ci)).map (jfv G M ci i))) := by rw [jws_get hk.1, jce_o hk hc]
theorem jws_i {G : JG} {M : SM} {i : Nat} (hk : jkd i 100) : (jws G jN0 (jce G M))[i]? = some (jB G + i, .inl (jA G 0, jln i, .inl (M.1 i))) := by rw [jws_get hk.1, jce_i hk]
theorem jws_l {G : JG} {M : SM} {i : Nat} (hk : jkd i 101) : (jws G jN0 (jce G M))[i]? = some (jB G + i, .inl (jA G 1, jln i, .inr (.inl (M.2 i)))) := by rw [jws_get hk.1, jce_l hk]
theorem jws_c {G : JG} {M : SM} {i : Nat} (hk : jkd i 102) : (jws G jN0 (jce G M))[i]? = some (jB G + i, .inl (jA G 2, jln i, .inl (M.1 i))) := by rw [jws_get hk.1, jce_c hk]
theorem jws_r {G : JG} {M : SM} {i : Nat} (hk : jkd i 103) : (jws G jN0 (jce G M))[i]? = some (jB G + i, .inl (jA G 3, jln i, .inr (.inr (.inr (.inr (fun j => some (jB G + jpf i j))))))) := by rw [jws_get hk.1, jce_r hk]
theorem jfv_congr {G : JG} {M M' : SM} {ci i j : Nat} (h1 : M.1 i j = M'.1 i j) (h2 : M.2 i j = M'.2 i j) : jfv G M ci i j = jfv G M' ci i j := by unfold jfv; rw [h1, h2]
theorem jce_congr {G : JG} {M M' : SM} {i : Nat} (h1 : M.1 i = M'.1 i) (h2 : M.2 i = M'.2 i) : jce G M i = jce G M' i := by
  unfold jce
  rw [h1, h2]
  have : jfv G M (jsh i).1 i = jfv G M' (jsh i).1 i := funext fun j => jfv_congr (congrFun h1 j) (congrFun h2 j)
  rw [this]
theorem sI_at (M : SM) (i k : Nat) (v : Int32) : (sI M i k v).1 i = upd (M.1 i) k v := funext fun b => by show (if i = i then _ else _) = _; rw [if_pos rfl]; rfl
theorem sI_ne (M : SM) {i a : Nat} (k : Nat) (v : Int32) (h : a ≠ i) : (sI M i k v).1 a = M.1 a := funext fun b => if_neg h
theorem sL_at (M : SM) (i k : Nat) (v : Int64) : (sL M i k v).2 i = vp_updL (M.2 i) k v := funext fun b => by show (if i = i then _ else _) = _; rw [if_pos rfl]; rfl
theorem sL_ne (M : SM) {i a : Nat} (k : Nat) (v : Int64) (h : a ≠ i) : (sL M i k v).2 a = M.2 a := funext fun b => if_neg h
theorem jce_sI {G : JG} {M : SM} {i k ci : Nat} {v : Int32} (hk : jkd i ci) (hc : ci < 100) (hf : jft ci k = 0) : (fun a => if a = i then .inr (ci, ((List.range (jnf ci)).map (jfv G M ci i)).set k (.int v)) else jce G M a) = jce G (sI M i k v) := by
  funext a
  by_cases h : a = i
  · subst h
    rw [if_pos rfl, jce_o hk hc]
    congr 2
    apply List.ext_getElem?
    intro j
    rw [List.getElem?_set, List.getElem?_map, List.getElem?_map]
    by_cases hj : k = j
    · subst hj
      rw [if_pos rfl, List.length_map, List.length_range]
      by_cases hlt : k < jnf ci
      · rw [if_pos hlt, List.getElem?_range hlt]
        show _ = some (jfv G (sI M a k v) ci a k)
        have e : (sI M a k v).1 a k = v := by rw [sI_at]; exact if_pos rfl
        unfold jfv
        rw [if_pos hf, e]
      · rw [if_neg hlt, List.getElem?_eq_none (by rw [List.length_range]; omega)]; rfl
    · rw [if_neg hj]
      have e : (sI M a k v).1 a j = M.1 a j := by rw [sI_at]; exact if_neg (fun h => hj h.symm)
      cases hr : (List.range (jnf ci))[j]? with
      | none => rfl
      | some b =>
        have : b = j := by
          have hlt := (List.getElem?_eq_some_iff.mp hr).1
          rw [List.length_range] at hlt
          rw [List.getElem?_range hlt] at hr
          exact (Option.some.inj hr).symm
        subst this
        exact congrArg some (jfv_congr e.symm rfl)
  · rw [if_neg h]
    exact jce_congr (sI_ne M k v h).symm rfl
theorem jce_sO {G : JG} {M : SM} {i k ci o : Nat} (hk : jkd i ci) (hc : ci < 100) (hf : jft ci k = 3) (ho : o = 7 ∨ o = 57) : (fun a => if a = i then .inr (ci, ((List.range (jnf ci)).map (jfv G M ci i)).set k (.ref (jB G + o))) else jce G M a) = jce G (sI M i k (jopn o)) := by
  have hop : jop (jopn o) = o := by rcases ho with rfl | rfl <;> rfl
  funext a
  by_cases h : a = i
  · subst h
    rw [if_pos rfl, jce_o hk hc]
    congr 2
    apply List.ext_getElem?
    intro j
    rw [List.getElem?_set, List.getElem?_map, List.getElem?_map]
    by_cases hj : k = j
    · subst hj
      rw [if_pos rfl, List.length_map, List.length_range]
      by_cases hlt : k < jnf ci
      · rw [if_pos hlt, List.getElem?_range hlt]
        show _ = some (jfv G (sI M a k (jopn o)) ci a k)
        have e : (sI M a k (jopn o)).1 a k = jopn o := by rw [sI_at]; exact if_pos rfl
        unfold jfv
        rw [hf, e, hop]
        rfl
      · rw [if_neg hlt, List.getElem?_eq_none (by rw [List.length_range]; omega)]; rfl
    · rw [if_neg hj]
      have e : (sI M a k (jopn o)).1 a j = M.1 a j := by rw [sI_at]; exact if_neg (fun h => hj h.symm)
      cases hr : (List.range (jnf ci))[j]? with
      | none => rfl
      | some b =>
        have : b = j := by
          have hlt := (List.getElem?_eq_some_iff.mp hr).1
          rw [List.length_range] at hlt
          rw [List.getElem?_range hlt] at hr
          exact (Option.some.inj hr).symm
        subst this
        exact congrArg some (jfv_congr e.symm rfl)
  · rw [if_neg h]
    exact jce_congr (sI_ne M k _ h).symm rfl
theorem jce_sL {G : JG} {M : SM} {i k ci : Nat} {v : Int64} (hk : jkd i ci) (hc : ci < 100) (hf : jft ci k = 1) : (fun a => if a = i then .inr (ci, ((List.range (jnf ci)).map (jfv G M ci i)).set k (.long v)) else jce G M a) = jce G (sL M i k v) := by
  funext a
  by_cases h : a = i
  · subst h
    rw [if_pos rfl, jce_o hk hc]
    congr 2
    apply List.ext_getElem?
    intro j
    rw [List.getElem?_set, List.getElem?_map, List.getElem?_map]
    by_cases hj : k = j
    · subst hj
      rw [if_pos rfl, List.length_map, List.length_range]
      by_cases hlt : k < jnf ci
      · rw [if_pos hlt, List.getElem?_range hlt]
        show _ = some (jfv G (sL M a k v) ci a k)
        have e : (sL M a k v).2 a k = v := by rw [sL_at]; exact if_pos rfl
        unfold jfv
        rw [hf, e]
        rfl
      · rw [if_neg hlt, List.getElem?_eq_none (by rw [List.length_range]; omega)]; rfl
    · rw [if_neg hj]
      have e : (sL M a k v).2 a j = M.2 a j := by rw [sL_at]; exact if_neg (fun h => hj h.symm)
      cases hr : (List.range (jnf ci))[j]? with
      | none => rfl
      | some b =>
        have : b = j := by
          have hlt := (List.getElem?_eq_some_iff.mp hr).1
          rw [List.length_range] at hlt
          rw [List.getElem?_range hlt] at hr
          exact (Option.some.inj hr).symm
        subst this
        exact congrArg some (jfv_congr rfl e.symm)
  · rw [if_neg h]
    exact jce_congr rfl (sL_ne M k v h).symm
theorem jce_aI {G : JG} {M : SM} {a k : Nat} {v : Int32} (hk : jkd a 100) : (fun b => if b = a then .inl (jA G 0, jln a, .inl (upd (M.1 a) k v)) else jce G M b) = jce G (sI M a k v) := by
  funext b
  by_cases h : b = a
  · subst h; rw [if_pos rfl, jce_i hk, sI_at]
  · rw [if_neg h]; exact jce_congr (sI_ne M k v h).symm rfl
theorem jce_aL {G : JG} {M : SM} {a k : Nat} {v : Int64} (hk : jkd a 101) : (fun b => if b = a then .inl (jA G 1, jln a, .inr (.inl (vp_updL (M.2 a) k v))) else jce G M b) = jce G (sL M a k v) := by
  funext b
  by_cases h : b = a
  · subst h; rw [if_pos rfl, jce_l hk, sL_at]
  · rw [if_neg h]; exact jce_congr rfl (sL_ne M k v h).symm
theorem jpf_lt (i j : Nat) : jpf i j < 1000 := by
  have h : jpfl.all (fun r => r.all (fun x => decide (x < 1000))) = true := by decide +kernel
  unfold jpf
  rw [List.getD_eq_getElem?_getD, List.getD_eq_getElem?_getD]
  cases hi : jpfl[i]? with
  | none => simp
  | some r =>
    have h2 := List.all_eq_true.mp h r (List.mem_of_getElem? hi)
    show ((some r).getD [])[j]?.getD 0 < _
    cases hj : r[j]? with
    | none => simp [hj]
    | some x => simpa [hj] using of_decide_eq_true (List.all_eq_true.mp h2 x (List.mem_of_getElem? hj))
theorem jop_lt (x : Int32) : jop x < 1000 := by unfold jop; split <;> omega
theorem jop_kd (x : Int32) : jkd (jop x) 1 := by unfold jop; split <;> decide +kernel
theorem jkd1 {o : Nat} (h : jkd o 1) : o = 7 ∨ o = 57 := by
  have hd : ∀ o, o < 430 → (jsh o).1 = 1 → o = 7 ∨ o = 57 := by decide +kernel
  exact hd o h.1 h.2
/-- the rows of a grid -/
theorem aR_kd {a r : Nat} {x : Int32} (hk : jkd a 103) (h : aR a x = some r) : jkd r 100 := by
  have hd : ∀ a, a < 430 → (jsh a).1 = 103 → ∀ j, j < jln a → jkd (jpf a j) 100 := by decide +kernel
  unfold aR at h
  split at h
  · cases h
  · next q => cases h; exact hd a hk.1 hk.2 _ (by omega)
theorem aI_in {M : SM} {a : Nat} {x v : Int32} (h : aI M a x = some v) : vp_in x (jln a) ∧ v = M.1 a x.toNatClampNeg := by
  unfold aI at h; split at h
  · cases h
  · next q => cases h; exact ⟨q, rfl⟩
theorem aL_in {M : SM} {a : Nat} {x : Int32} {v : Int64} (h : aL M a x = some v) : vp_in x (jln a) ∧ v = M.2 a x.toNatClampNeg := by
  unfold aL at h; split at h
  · cases h
  · next q => cases h; exact ⟨q, rfl⟩
theorem aS_in {M M' : SM} {a : Nat} {x v : Int32} (h : aS M a x v = some M') : vp_in x (jln a) ∧ M' = sI M a x.toNatClampNeg v := by
  unfold aS at h; split at h
  · cases h
  · next q => cases h; exact ⟨q, rfl⟩
theorem aSL_in {M M' : SM} {a : Nat} {x : Int32} {v : Int64} (h : aSL M a x v = some M') : vp_in x (jln a) ∧ M' = sL M a x.toNatClampNeg v := by
  unfold aSL at h; split at h
  · cases h
  · next q => cases h; exact ⟨q, rfl⟩
theorem aR_in {a r : Nat} {x : Int32} (h : aR a x = some r) : vp_in x (jln a) ∧ r = jpf a x.toNatClampNeg := by
  unfold aR at h; split at h
  · cases h
  · next q => cases h; exact ⟨q, rfl⟩
theorem nbool {v : Int32} (h : v = 0 ∨ v = 1) : narrow .boolean (.int v) = .int v := by rcases h with rfl | rfl <;> rfl
theorem fbool {v : Int32} (h : v = 0 ∨ v = 1) : fits .boolean (.int v) = true := by rcases h with rfl | rfl <;> rfl
theorem jfs_get {G : JG} {M : SM} {ci i k : Nat} (h : k < jnf ci) : ((List.range (jnf ci)).map (jfv G M ci i))[k]? = some (jfv G M ci i k) := by
  rw [List.getElem?_map, List.getElem?_range h]; rfl
section
variable {p : Program} {l : Launch} {e : Env} {R : Room} {s : State} {m : MethodId} {args : Array Value} {below : List Frame} {meth : Method} {c : Code} {G : JG} {cc : ByteArray} {nL D : Nat} {own : String} {Q : State → Prop} {cells slots : Nat} {pc : Nat} {ls : List (Option Value)} {st : List Value} {M : SM}
theorem jRep1 {H H1 : Heap} {locs1 : List Loc} {n : Nat} {ce ce' : Nat → va_E} (C : jCx p R s m args meth c G cc nL D own) (F : jF G = false) (hS1 : va_S (jAb G) s.heap H1 locs1) (hr : jRep G n ce H) (hP : va_P (jD G) jcl (jws G n ce') H1) : jRep G n ce' H1 :=
  ⟨Nat.le_trans C.2.2.2.2.2.2.1 hS1.1, (fun h => by rw [F] at h; cases h), hr.2.2.1, hP⟩
theorem jaald {H : Heap} {locs : List Loc} {lsA : Array Slot} {rest : List Value} {Dg : va_G} {cl : List vw_C} {tys : List (ClassId × FieldType)} {ws : va_W} {a : Nat} (hexec : p.tables.exec = Jvm.exec) (hb : c.code = cc) (hK : va_K Dg cl tys s) (hP : va_P Dg cl ws H) (q0 t0 : Nat) {cA : ClassId} {n : Nat} {f : Nat → Option Nat} {ty : FieldType} (ha : ws[q0]? = some (a, .inl (cA, n, .inr (.inr (.inr (.inr f)))))) (ht : tys[t0]? = some (cA, .array ty)) {i : Int32} (hin : vp_in i n) (hdg : decode cc pc = .ok (.aaload, 1))
    (kk : W p l e R s m args below meth c H locs cells slots Q (F0 m (pc + 1) lsA (va_rf (f i.toNatClampNeg) :: rest))) : W p l e R s m args below meth c H locs cells slots Q (F0 m pc lsA (.int i :: .ref a :: rest)) := by
  have hlt : i.toNatClampNeg < n := Nat.not_le.mp fun q => hin (Or.inr q)
  exact W.aald (v := va_rf (f i.toNatClampNeg)) (ty := .array ty) hexec hb (hP q0 _ ha) ((hK.2 t0 _ ht).1 n (fun j => va_rf (f j))) rfl (fun q => by cases q) (by show ¬ (i < 0 ∨ (arrV _ _ _).slots.size ≤ _); rw [arrV_size]; exact hin) (by show (arrV _ _ _).slots[_]? = _; rw [arrV_read _ _ hlt]) rfl rfl hdg kk
theorem w_getV {ci i k j N : Nat} {Cl : String} {T : u_T} {v : Value} (C : jCx p R s m args meth c G cc nL D own) (hk : jkd i ci) (hc : ci < 100) (hcl : jcl[ci]? = some (Cl, T, N)) (hin : ∀ w ∈ u_ws Cl T N, w ∈ jTW) (hkN : k < N) (hkn : k < jnf ci) (hw : Cond.fieldLink own j Cl (T k).2.1 (T k).2.2.1 ∈ jTW) (hT : (T k).1 = Cl) (hv : jfv G M ci i k = jV G v) (hdg : decode cc pc = .ok (.getfield j, 3)) (kk : Wk p l e R s m args below meth c G nL Q cells slots jN0 (jce G M) (pc + 3) ls (v :: st)) : Wk p l e R s m args below meth c G nL Q cells slots jN0 (jce G M) pc ls (.ref i :: st) := by
  intro lsA H locs hl hr hS
  show W _ _ _ _ _ _ _ _ _ _ _ _ _ _ _ (F0 m pc lsA (.ref (jad G i) :: st.map (jV G)))
  rw [jad_lt (Nat.lt_trans hk.1 (by decide))]
  exact va_get C.1 C.2.1 C.2.2.2.2.1 hin C.2.2.2.1 C.2.2.2.2.2.1.1 hr.2.2.2 i (jws_o hk hc) hcl k hkN (C.2.2.2.2.1 _ hw) (fun x hx => by rw [hT] at hx; exact hx) (by rw [jfs_get hkn, hv]) hdg (kk lsA H locs hl hr hS)
theorem w_getI {ci i k j N : Nat} {Cl : String} {T : u_T} (C : jCx p R s m args meth c G cc nL D own) (hk : jkd i ci) (hc : ci < 100) (hcl : jcl[ci]? = some (Cl, T, N)) (hin : ∀ w ∈ u_ws Cl T N, w ∈ jTW) (hkN : k < N) (hkn : k < jnf ci) (hw : Cond.fieldLink own j Cl (T k).2.1 (T k).2.2.1 ∈ jTW) (hT : (T k).1 = Cl) (hf : jft ci k = 0) (hdg : decode cc pc = .ok (.getfield j, 3)) (kk : Wk p l e R s m args below meth c G nL Q cells slots jN0 (jce G M) (pc + 3) ls (.int (M.1 i k) :: st)) : Wk p l e R s m args below meth c G nL Q cells slots jN0 (jce G M) pc ls (.ref i :: st) :=
  w_getV C hk hc hcl hin hkN hkn hw hT (by unfold jfv; rw [if_pos hf]; rfl) hdg kk
theorem w_getL {ci i k j N : Nat} {Cl : String} {T : u_T} (C : jCx p R s m args meth c G cc nL D own) (hk : jkd i ci) (hc : ci < 100) (hcl : jcl[ci]? = some (Cl, T, N)) (hin : ∀ w ∈ u_ws Cl T N, w ∈ jTW) (hkN : k < N) (hkn : k < jnf ci) (hw : Cond.fieldLink own j Cl (T k).2.1 (T k).2.2.1 ∈ jTW) (hT : (T k).1 = Cl) (hf : jft ci k = 1) (hdg : decode cc pc = .ok (.getfield j, 3)) (kk : Wk p l e R s m args below meth c G nL Q cells slots jN0 (jce G M) (pc + 3) ls (.long (M.2 i k) :: st)) : Wk p l e R s m args below meth c G nL Q cells slots jN0 (jce G M) pc ls (.ref i :: st) :=
  w_getV C hk hc hcl hin hkN hkn hw hT (by unfold jfv; rw [hf]; rfl) hdg kk
theorem w_getR {ci i k j N : Nat} {Cl : String} {T : u_T} (C : jCx p R s m args meth c G cc nL D own) (hk : jkd i ci) (hc : ci < 100) (hcl : jcl[ci]? = some (Cl, T, N)) (hin : ∀ w ∈ u_ws Cl T N, w ∈ jTW) (hkN : k < N) (hkn : k < jnf ci) (hw : Cond.fieldLink own j Cl (T k).2.1 (T k).2.2.1 ∈ jTW) (hT : (T k).1 = Cl) (hf : jft ci k = 2) (hdg : decode cc pc = .ok (.getfield j, 3)) (kk : Wk p l e R s m args below meth c G nL Q cells slots jN0 (jce G M) (pc + 3) ls (.ref (jpf i k) :: st)) : Wk p l e R s m args below meth c G nL Q cells slots jN0 (jce G M) pc ls (.ref i :: st) :=
  w_getV C hk hc hcl hin hkN hkn hw hT (by unfold jfv; rw [hf]; show _ = Value.ref (jad G _); rw [jad_lt (jpf_lt i k)]; rfl) hdg kk
theorem w_getO {ci i k j N : Nat} {Cl : String} {T : u_T} (C : jCx p R s m args meth c G cc nL D own) (hk : jkd i ci) (hc : ci < 100) (hcl : jcl[ci]? = some (Cl, T, N)) (hin : ∀ w ∈ u_ws Cl T N, w ∈ jTW) (hkN : k < N) (hkn : k < jnf ci) (hw : Cond.fieldLink own j Cl (T k).2.1 (T k).2.2.1 ∈ jTW) (hT : (T k).1 = Cl) (hf : jft ci k = 3) (hdg : decode cc pc = .ok (.getfield j, 3)) (kk : Wk p l e R s m args below meth c G nL Q cells slots jN0 (jce G M) (pc + 3) ls (.ref (jop (M.1 i k)) :: st)) : Wk p l e R s m args below meth c G nL Q cells slots jN0 (jce G M) pc ls (.ref i :: st) :=
  w_getV C hk hc hcl hin hkN hkn hw hT (by unfold jfv; rw [hf]; show _ = Value.ref (jad G _); rw [jad_lt (jop_lt _)]; rfl) hdg kk
theorem w_putV {ci i k j N : Nat} {Cl : String} {T : u_T} {Y : Nat → FieldType} {v : Value} {M' : SM} (C : jCx p R s m args meth c G cc nL D own) (F : jF G = false) (hk : jkd i ci) (hc : ci < 100) (hcl : jcl[ci]? = some (Cl, T, N)) (hin : ∀ w ∈ u_ws Cl T N, w ∈ jTW) (hY : ∀ k, k < N → parseFieldDescriptor (T k).2.2.1 = some (Y k)) (hnm : ∀ a, a < N → ∀ b, b < N → a ≠ b → (T a).2.1 ≠ (T b).2.1) (hkN : k < N) (hkn : k < jnf ci) (hw : Cond.fieldLink own j Cl (T k).2.1 (T k).2.2.1 ∈ jTW) (hT : (T k).1 = Cl) (hfin : (T k).2.2.2 = false) (hn : narrow (Y k) (jV G v) = jV G v) (hfit : fits (Y k) (jV G v) = true) (hM : (fun a => if a = i then .inr (ci, ((List.range (jnf ci)).map (jfv G M ci i)).set k (jV G v)) else jce G M a) = jce G M') (hdg : decode cc pc = .ok (.putfield j, 3)) (kk : Wk p l e R s m args below meth c G nL Q cells slots jN0 (jce G M') (pc + 3) ls st) : Wk p l e R s m args below meth c G nL Q cells slots jN0 (jce G M) pc ls (v :: .ref i :: st) := by
  intro lsA H locs hl hr hS
  show W _ _ _ _ _ _ _ _ _ _ _ _ _ _ _ (F0 m pc lsA (jV G v :: .ref (jad G i) :: st.map (jV G)))
  rw [jad_lt (Nat.lt_trans hk.1 (by decide))]
  refine va_put C.1 C.2.1 C.2.2.2.2.1 hin Y hY hnm C.2.2.2.1 C.2.2.2.2.2.1.1 hr.2.2.2 jws_D hS i (jws_o hk hc) hcl k hkN (C.2.2.2.2.1 _ hw) (fun x hx => by rw [hT] at hx; exact hx) hfin (hY k hkN) hn hfit (by rw [List.length_map, List.length_range]; exact hkn) hdg (fun H1 locs1 hP hD hS1 => ?_)
  rw [jws_set, hM] at hP
  exact kk lsA H1 locs1 hl (jRep1 C F hS1 hr hP) hS1
theorem w_putI {ci i k j N : Nat} {Cl : String} {T : u_T} {Y : Nat → FieldType} {x : Int32} (C : jCx p R s m args meth c G cc nL D own) (F : jF G = false) (hk : jkd i ci) (hc : ci < 100) (hcl : jcl[ci]? = some (Cl, T, N)) (hin : ∀ w ∈ u_ws Cl T N, w ∈ jTW) (hY : ∀ k, k < N → parseFieldDescriptor (T k).2.2.1 = some (Y k)) (hnm : ∀ a, a < N → ∀ b, b < N → a ≠ b → (T a).2.1 ≠ (T b).2.1) (hkN : k < N) (hkn : k < jnf ci) (hw : Cond.fieldLink own j Cl (T k).2.1 (T k).2.2.1 ∈ jTW) (hT : (T k).1 = Cl) (hfin : (T k).2.2.2 = false) (hf : jft ci k = 0) (hY2 : Y k = .int) (hdg : decode cc pc = .ok (.putfield j, 3)) (kk : Wk p l e R s m args below meth c G nL Q cells slots jN0 (jce G (sI M i k x)) (pc + 3) ls st) : Wk p l e R s m args below meth c G nL Q cells slots jN0 (jce G M) pc ls (.int x :: .ref i :: st) :=
  w_putV (v := .int x) C F hk hc hcl hin hY hnm hkN hkn hw hT hfin (by rw [hY2]; rfl) (by rw [hY2]; rfl) (jce_sI hk hc hf) hdg kk
theorem w_putZ {ci i k j N : Nat} {Cl : String} {T : u_T} {Y : Nat → FieldType} {x : Int32} (C : jCx p R s m args meth c G cc nL D own) (F : jF G = false) (hk : jkd i ci) (hc : ci < 100) (hcl : jcl[ci]? = some (Cl, T, N)) (hin : ∀ w ∈ u_ws Cl T N, w ∈ jTW) (hY : ∀ k, k < N → parseFieldDescriptor (T k).2.2.1 = some (Y k)) (hnm : ∀ a, a < N → ∀ b, b < N → a ≠ b → (T a).2.1 ≠ (T b).2.1) (hkN : k < N) (hkn : k < jnf ci) (hw : Cond.fieldLink own j Cl (T k).2.1 (T k).2.2.1 ∈ jTW) (hT : (T k).1 = Cl) (hfin : (T k).2.2.2 = false) (hf : jft ci k = 0) (hY2 : Y k = .boolean) (hx : x = 0 ∨ x = 1) (hdg : decode cc pc = .ok (.putfield j, 3)) (kk : Wk p l e R s m args below meth c G nL Q cells slots jN0 (jce G (sI M i k x)) (pc + 3) ls st) : Wk p l e R s m args below meth c G nL Q cells slots jN0 (jce G M) pc ls (.int x :: .ref i :: st) :=
  w_putV (v := .int x) C F hk hc hcl hin hY hnm hkN hkn hw hT hfin (by rw [hY2]; exact nbool hx) (by rw [hY2]; exact fbool hx) (jce_sI hk hc hf) hdg kk
theorem w_putL {ci i k j N : Nat} {Cl : String} {T : u_T} {Y : Nat → FieldType} {x : Int64} (C : jCx p R s m args meth c G cc nL D own) (F : jF G = false) (hk : jkd i ci) (hc : ci < 100) (hcl : jcl[ci]? = some (Cl, T, N)) (hin : ∀ w ∈ u_ws Cl T N, w ∈ jTW) (hY : ∀ k, k < N → parseFieldDescriptor (T k).2.2.1 = some (Y k)) (hnm : ∀ a, a < N → ∀ b, b < N → a ≠ b → (T a).2.1 ≠ (T b).2.1) (hkN : k < N) (hkn : k < jnf ci) (hw : Cond.fieldLink own j Cl (T k).2.1 (T k).2.2.1 ∈ jTW) (hT : (T k).1 = Cl) (hfin : (T k).2.2.2 = false) (hf : jft ci k = 1) (hY2 : Y k = .long) (hdg : decode cc pc = .ok (.putfield j, 3)) (kk : Wk p l e R s m args below meth c G nL Q cells slots jN0 (jce G (sL M i k x)) (pc + 3) ls st) : Wk p l e R s m args below meth c G nL Q cells slots jN0 (jce G M) pc ls (.long x :: .ref i :: st) :=
  w_putV (v := .long x) C F hk hc hcl hin hY hnm hkN hkn hw hT hfin (by rw [hY2]; rfl) (by rw [hY2]; rfl) (jce_sL hk hc hf) hdg kk
theorem w_putO {ci i k j N o : Nat} {Cl : String} {T : u_T} {Y : Nat → FieldType} (C : jCx p R s m args meth c G cc nL D own) (F : jF G = false) (hk : jkd i ci) (hc : ci < 100) (hcl : jcl[ci]? = some (Cl, T, N)) (hin : ∀ w ∈ u_ws Cl T N, w ∈ jTW) (hY : ∀ k, k < N → parseFieldDescriptor (T k).2.2.1 = some (Y k)) (hnm : ∀ a, a < N → ∀ b, b < N → a ≠ b → (T a).2.1 ≠ (T b).2.1) (hkN : k < N) (hkn : k < jnf ci) (hw : Cond.fieldLink own j Cl (T k).2.1 (T k).2.2.1 ∈ jTW) (hT : (T k).1 = Cl) (hfin : (T k).2.2.2 = false) (hf : jft ci k = 3) (hY2 : Y k = .object jR1) (ho : jkd o 1) (hdg : decode cc pc = .ok (.putfield j, 3)) (kk : Wk p l e R s m args below meth c G nL Q cells slots jN0 (jce G (sI M i k (jopn o))) (pc + 3) ls st) : Wk p l e R s m args below meth c G nL Q cells slots jN0 (jce G M) pc ls (.ref o :: .ref i :: st) :=
  w_putV (v := .ref o) C F hk hc hcl hin hY hnm hkN hkn hw hT hfin (by rw [hY2]; rfl) (by rw [hY2]; rfl) (by show (fun a => if a = i then .inr (ci, ((List.range (jnf ci)).map (jfv G M ci i)).set k (.ref (jad G o))) else jce G M a) = _; rw [jad_lt (Nat.lt_trans ho.1 (by decide))]; exact jce_sO hk hc hf (jkd1 ho)) hdg kk
theorem w_iald {a : Nat} {x v : Int32} (C : jCx p R s m args meth c G cc nL D own) (hk : jkd a 100) (hv : aI M a x = some v) (hdg : decode cc pc = .ok (.iaload, 1)) (kk : Wk p l e R s m args below meth c G nL Q cells slots jN0 (jce G M) (pc + 1) ls (.int v :: st)) : Wk p l e R s m args below meth c G nL Q cells slots jN0 (jce G M) pc ls (.int x :: .ref a :: st) := by
  intro lsA H locs hl hr hS
  obtain ⟨h1, rfl⟩ := aI_in hv
  show W _ _ _ _ _ _ _ _ _ _ _ _ _ _ _ (F0 m pc lsA (.int x :: .ref (jad G a) :: st.map (jV G)))
  rw [jad_lt (Nat.lt_trans hk.1 (by decide))]
  exact va_iald C.1 C.2.1 C.2.2.2.2.2.1.1 hr.2.2.2 a 0 (jws_i hk) rfl h1 hdg (kk lsA H locs hl hr hS)
theorem w_cald {a : Nat} {x v : Int32} (C : jCx p R s m args meth c G cc nL D own) (hk : jkd a 102) (hv : aI M a x = some v) (hdg : decode cc pc = .ok (.caload, 1)) (kk : Wk p l e R s m args below meth c G nL Q cells slots jN0 (jce G M) (pc + 1) ls (.int v :: st)) : Wk p l e R s m args below meth c G nL Q cells slots jN0 (jce G M) pc ls (.int x :: .ref a :: st) := by
  intro lsA H locs hl hr hS
  obtain ⟨h1, rfl⟩ := aI_in hv
  show W _ _ _ _ _ _ _ _ _ _ _ _ _ _ _ (F0 m pc lsA (.int x :: .ref (jad G a) :: st.map (jV G)))
  rw [jad_lt (Nat.lt_trans hk.1 (by decide))]
  exact va_cald C.1 C.2.1 C.2.2.2.2.2.1.1 hr.2.2.2 a 2 (jws_c hk) rfl h1 hdg (kk lsA H locs hl hr hS)
theorem w_lald {a : Nat} {x : Int32} {v : Int64} (C : jCx p R s m args meth c G cc nL D own) (hk : jkd a 101) (hv : aL M a x = some v) (hdg : decode cc pc = .ok (.laload, 1)) (kk : Wk p l e R s m args below meth c G nL Q cells slots jN0 (jce G M) (pc + 1) ls (.long v :: st)) : Wk p l e R s m args below meth c G nL Q cells slots jN0 (jce G M) pc ls (.int x :: .ref a :: st) := by
  intro lsA H locs hl hr hS
  obtain ⟨h1, rfl⟩ := aL_in hv
  show W _ _ _ _ _ _ _ _ _ _ _ _ _ _ _ (F0 m pc lsA (.int x :: .ref (jad G a) :: st.map (jV G)))
  rw [jad_lt (Nat.lt_trans hk.1 (by decide))]
  exact va_lald C.1 C.2.1 C.2.2.2.2.2.1.1 hr.2.2.2 a 1 (jws_l hk) rfl h1 hdg (kk lsA H locs hl hr hS)
theorem w_aald {a r : Nat} {x : Int32} (C : jCx p R s m args meth c G cc nL D own) (hk : jkd a 103) (hv : aR a x = some r) (hdg : decode cc pc = .ok (.aaload, 1)) (kk : Wk p l e R s m args below meth c G nL Q cells slots jN0 (jce G M) (pc + 1) ls (.ref r :: st)) : Wk p l e R s m args below meth c G nL Q cells slots jN0 (jce G M) pc ls (.int x :: .ref a :: st) := by
  intro lsA H locs hl hr hS
  obtain ⟨h1, rfl⟩ := aR_in hv
  show W _ _ _ _ _ _ _ _ _ _ _ _ _ _ _ (F0 m pc lsA (.int x :: .ref (jad G a) :: st.map (jV G)))
  rw [jad_lt (Nat.lt_trans hk.1 (by decide))]
  have k2 := kk lsA H locs hl hr hS
  have e : (Value.ref (jpf a x.toNatClampNeg) :: st).map (jV G) = .ref (jB G + jpf a x.toNatClampNeg) :: st.map (jV G) := by
    show Value.ref (jad G _) :: _ = _
    rw [jad_lt (jpf_lt _ _)]
  rw [e] at k2
  exact jaald C.1 C.2.1 C.2.2.2.2.2.1.1 hr.2.2.2 a 3 (jws_r hk) rfl h1 hdg k2
theorem w_alen {a : Nat} (C : jCx p R s m args meth c G cc nL D own) (hk : jkd a 100 ∨ jkd a 101 ∨ jkd a 102 ∨ jkd a 103) (hdg : decode cc pc = .ok (.arraylength, 1)) (kk : Wk p l e R s m args below meth c G nL Q cells slots jN0 (jce G M) (pc + 1) ls (.int (nI (jln a)) :: st)) : Wk p l e R s m args below meth c G nL Q cells slots jN0 (jce G M) pc ls (.ref a :: st) := by
  intro lsA H locs hl hr hS
  have hlt : a < jN0 := by rcases hk with h | h | h | h <;> exact h.1
  show W _ _ _ _ _ _ _ _ _ _ _ _ _ _ _ (F0 m pc lsA (.ref (jad G a) :: st.map (jV G)))
  rw [jad_lt (Nat.lt_trans hlt (by decide))]
  rcases hk with hk | hk | hk | hk
  · exact va_alen C.1 C.2.1 C.2.2.2.2.2.1.1 hr.2.2.2 a 0 (jws_i hk) rfl rfl hdg (kk lsA H locs hl hr hS)
  · exact va_alen C.1 C.2.1 C.2.2.2.2.2.1.1 hr.2.2.2 a 1 (jws_l hk) rfl rfl hdg (kk lsA H locs hl hr hS)
  · exact va_alen C.1 C.2.1 C.2.2.2.2.2.1.1 hr.2.2.2 a 2 (jws_c hk) rfl rfl hdg (kk lsA H locs hl hr hS)
  · exact va_alen C.1 C.2.1 C.2.2.2.2.2.1.1 hr.2.2.2 a 3 (jws_r hk) rfl rfl hdg (kk lsA H locs hl hr hS)
theorem w_iast {a : Nat} {x v : Int32} {M' : SM} (C : jCx p R s m args meth c G cc nL D own) (F : jF G = false) (hk : jkd a 100) (hv : aS M a x v = some M') (hdg : decode cc pc = .ok (.iastore, 1)) (kk : Wk p l e R s m args below meth c G nL Q cells slots jN0 (jce G M') (pc + 1) ls st) : Wk p l e R s m args below meth c G nL Q cells slots jN0 (jce G M) pc ls (.int v :: .int x :: .ref a :: st) := by
  intro lsA H locs hl hr hS
  obtain ⟨h1, rfl⟩ := aS_in hv
  show W _ _ _ _ _ _ _ _ _ _ _ _ _ _ _ (F0 m pc lsA (.int v :: .int x :: .ref (jad G a) :: st.map (jV G)))
  rw [jad_lt (Nat.lt_trans hk.1 (by decide))]
  refine va_iast C.1 C.2.1 C.2.2.2.2.2.1.1 hr.2.2.2 jws_D hS a 0 (jws_i hk) rfl h1 hdg (fun H1 locs1 hP hD hS1 => ?_)
  rw [jws_set, jce_aI hk] at hP
  exact kk lsA H1 locs1 hl (jRep1 C F hS1 hr hP) hS1
theorem w_last {a : Nat} {x : Int32} {v : Int64} {M' : SM} (C : jCx p R s m args meth c G cc nL D own) (F : jF G = false) (hk : jkd a 101) (hv : aSL M a x v = some M') (hdg : decode cc pc = .ok (.lastore, 1)) (kk : Wk p l e R s m args below meth c G nL Q cells slots jN0 (jce G M') (pc + 1) ls st) : Wk p l e R s m args below meth c G nL Q cells slots jN0 (jce G M) pc ls (.long v :: .int x :: .ref a :: st) := by
  intro lsA H locs hl hr hS
  obtain ⟨h1, rfl⟩ := aSL_in hv
  show W _ _ _ _ _ _ _ _ _ _ _ _ _ _ _ (F0 m pc lsA (.long v :: .int x :: .ref (jad G a) :: st.map (jV G)))
  rw [jad_lt (Nat.lt_trans hk.1 (by decide))]
  refine va_last C.1 C.2.1 C.2.2.2.2.2.1.1 hr.2.2.2 jws_D hS a 1 (jws_l hk) rfl h1 hdg (fun H1 locs1 hP hD hS1 => ?_)
  rw [jws_set, jce_aL hk] at hP
  exact kk lsA H1 locs1 hl (jRep1 C F hS1 hr hP) hS1
end
