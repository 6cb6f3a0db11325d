/-! ===== calls: contracts over worlds ===== -/
def Qj (G : JG) (r : Option Value) (n : Nat) (ce : Nat → va_E) : Array Value → State → Outcome → State → Prop := fun _ st o t => (o = .returned (r.map (jV G)) ∧ jRep G n ce t.heap) ∧ va_F (jAb G) st t
abbrev jrm (d mc ms : Nat) : Room := { frames := d, cells := mc, slots := ms, locals := 64 * d }
def jMet (l : Launch) (y : MethodName) (bytes : ByteArray) (maxL : Nat) (ret : Option FieldType) (d mc ms : Nat) (G : JG) (av : List Value) (n : Nat) (ce : Nat → va_E) (r : Option Value) (n' : Nat) (ce' : Nat → va_E) : Prop :=
  Met l y (.code y bytes maxL ret :: jTW) (jrm d mc ms) (va_Pc (av.map (jV G)) (fun U => jX G U ∧ jRep G n ce U.heap)) (Qj G r n' ce') mc ms (jAb G)
def jok (y : MethodName) (bytes : ByteArray) (maxL : Nat) (ret : Option FieldType) (na : Nat) : Prop :=
  Cond.code y bytes maxL ret ∈ jTW ∧ Cond.initialized y.cls ∈ jTW ∧ (y.cls ≠ "java/lang/invoke/MethodHandle" ∧ y.cls ≠ "java/lang/invoke/VarHandle") ∧ (parseMethodDescriptor y.desc).map (fun d => d.parameters.length) = some na ∧ plainFor y = true
theorem jgoodL {w : Cond} {ws : List Cond} (hw : w ∈ jTW) (h : ∀ x ∈ ws, x ∈ jTW) : ∀ x ∈ w :: ws, x ∈ jTW := fun x hx => (List.mem_cons.mp hx).elim (fun e => e ▸ hw) (h x)
theorem jpay {args : Array Value} {s : State} (hts : ∀ w ∈ jTW, w.before args s = true) {y : MethodName} {bytes : ByteArray} {maxL : Nat} {ret : Option FieldType} (h : Cond.code y bytes maxL ret ∈ jTW) : ∀ w ∈ (Cond.code y bytes maxL ret :: jTW), ∀ (a' : Array Value) (U : State), s.WarmedH U.vm → w.before a' U = true :=
  pay_in hts (fun w hw => ⟨jgoodL h (fun _ q => q) w hw, good_of_word (jTW_good w (jgoodL h (fun _ q => q) w hw))⟩)
section
variable {p : Program} {l : Launch} {e : Env} {R : Room} {s : State} {m : MethodId} {args : Array Value} {below : List Frame} {meth : Method} {c : Code} {G : JG} {cc : ByteArray} {nL D : Nat} {own : String} {Q : State → Prop} {cells slots n : Nat} {ce : Nat → va_E} {pc : Nat} {ls : List (Option Value)} {st : List Value}
theorem jpre {H : Heap} {locs : List Loc} {av : List Value} (C : jCx p R s m args meth c G cc nL D own) (hr : jRep G n ce H) (hS : va_S (jAb G) s.heap H locs) : FrameBlind (va_Pc (av.map (jV G)) (fun U => jX G U ∧ jRep G n ce U.heap)) ∧ ∀ U : State, U.heap = H → s.WarmedH U.vm → va_Pc (av.map (jV G)) (fun U => jX G U ∧ jRep G n ce U.heap) (av.map (jV G)).toArray U :=
  ⟨fun a U g mk h => ⟨h.1, h.2.1.blind g mk a, h.2.2⟩, fun U hU hW => ⟨rfl, C.2.2.2.2.2.1.call hU hW hS, by rw [hU]; exact hr⟩⟩
theorem jCallB {y : MethodName} {bytes : ByteArray} {maxL na d mc ms i : Nat} {ret : Option FieldType} (C : jCx p R s m args meth c G cc nL D own) (o : jok y bytes maxL ret na) (hl : Cond.methodLink own i y ∈ jTW) (hd : d + 1 ≤ D) (hm : maxL ≤ 45) : CallB R s args own i y bytes maxL ret (.code y bytes maxL ret :: jTW) (jrm d mc ms) mc ms na := by
  obtain ⟨C1, C2, C3, C4, C5, C6, C7, C8, C9, C10, C11⟩ := C
  obtain ⟨o1, o2, o3, o4, -⟩ := o
  refine ⟨rfl, rfl, ?_, ?_, jpay C5 o1, List.mem_cons_self, C5 _ o1, C5 _ o2, o3, fun sig hs => ?_, C5 _ hl⟩
  · show d + 1 ≤ R.frames; omega
  · show 8 + (maxL + 11) + 64 * d ≤ R.locals; omega
  · rw [hs] at o4; cases o4; rfl
theorem jCallN {y : MethodName} {bytes : ByteArray} {maxL na d mc ms i : Nat} {ret : Option FieldType} {host : String} (C : jCx p R s m args meth c G cc nL D own) (o : jok y bytes maxL ret na) (hl : (own, i, y, host) ∈ jnest) (hd : d + 1 ≤ D) (hm : maxL ≤ 45) : va_CN R s args own i y host bytes maxL ret (.code y bytes maxL ret :: jTW) (jrm d mc ms) mc ms na := by
  obtain ⟨C1, C2, C3, C4, C5, C6, C7, C8, C9, C10, C11⟩ := C
  obtain ⟨o1, o2, o3, o4, -⟩ := o
  refine ⟨⟨rfl, rfl, ?_, ?_, jpay C5 o1, List.mem_cons_self⟩, C5 _ o1, C5 _ o2, o3, fun sig hs => ?_, (C6.2.2.2.1 _ hl).use rfl⟩
  · show d + 1 ≤ R.frames; omega
  · show 8 + (maxL + 11) + 64 * d ≤ R.locals; omega
  · rw [hs] at o4; cases o4; rfl
theorem jrun {H : Heap} {locs : List Loc} {mc ms n' : Nat} {ce' : Nat → va_E} {r : Option Value} {lsA : Array Slot} {st0 : List Value} {av : Array Value} (hl : jLs G lsA nL ls) (hS : va_S (jAb G) s.heap H locs) (hr : va_Run p l e R s m args below meth c H locs cells slots mc ms (F0 m pc lsA st0) (st.map (jV G)) (Qj G r n' ce' av) (jAb G)) (k : Wk p l e R s m args below meth c G nL Q (cells + mc) (slots + ms) n' ce' (pc + 3) ls (r.toList ++ st)) : W p l e R s m args below meth c H locs cells slots Q (F0 m pc lsA st0) := by
  intro T hT X
  obtain ⟨v, st₀, t, T', L, h0, X', hL, e1, e2, ⟨⟨hv, hb⟩, hz, hk⟩, stp⟩ := hr T hT X
  cases hv
  rw [h0] at hz hk
  obtain ⟨t2, a1, b1⟩ := k lsA T'.heap (locs ++ L) hl (by rw [e1]; exact hb) ⟨Nat.le_trans hS.1 (by rw [e1]; exact hz), fun q h1 h2 => by rw [e1, hk q (Nat.lt_of_lt_of_le h1 hS.1) h2]; exact hS.2.1 q h1 h2, fun q hq => (List.mem_append.mp hq).elim (hS.2.2 q) (hL q)⟩ T' rfl X'
  refine ⟨t2, stp t2 ?_, b1⟩
  have e9 : (r.map (jV G)).toList ++ st.map (jV G) = (r.toList ++ st).map (jV G) := by cases r <;> rfl
  rw [e9]
  exact a1
theorem jstack {As : List Value} {b : Nat} : ((As.reverse ++ Value.ref b :: st).map (jV G)) = (As.map (jV G)).reverse ++ .ref (jad G b) :: st.map (jV G) := by
  rw [List.map_append, List.map_reverse]; rfl
theorem jstackS {As : List Value} : ((As.reverse ++ st).map (jV G)) = (As.map (jV G)).reverse ++ st.map (jV G) := by
  rw [List.map_append, List.map_reverse]
theorem jrecv {H : Heap} {b ci N : Nat} {fs : List Value} {Cl : String} {T : u_T} (C : jCx p R s m args meth c G cc nL D own) (hr : jRep G n ce H) (hb : b < n) (hbe : ce b = .inr (ci, fs)) (hbc : jcl[ci]? = some (Cl, T, N)) : ∃ cellB : Cell, H[jad G b]? = some cellB ∧ cellB.vm.isStatics = false ∧ s.vm.findClass Cl = some cellB.cls := by
  have h := va_recv (q0 := b) (a := jB G + b) C.2.2.2.2.2.1.1 hr.2.2.2 hbc (by rw [jws_get hb, hbe])
  rw [jad_lt (Nat.lt_of_lt_of_le hb hr.2.2.1)]; exact h
/-- calls: of an instance (V; a nest mate's: VN), static (S; a nest mate's: SN), of a constructor (I) -/
theorem w_callV {y : MethodName} {bytes : ByteArray} {maxL na d mc ms i n' ci N b : Nat} {ret : Option FieldType} {As : List Value} {r : Option Value} {ce' : Nat → va_E} {fs : List Value} {T : u_T} (C : jCx p R s m args meth c G cc nL D own) (o : jok y bytes maxL ret na) (hM : jMet l y bytes maxL ret d mc ms G (.ref b :: As) n ce r n' ce') (hb : b < n) (hbe : ce b = .inr (ci, fs)) (hbc : jcl[ci]? = some (y.cls, T, N)) (hl : Cond.methodLink own i y ∈ jTW) (hi : Cond.instanceMethod y ∈ jTW) (hs : Cond.selects y.cls y y ∈ jTW) (hd : d + 1 ≤ D) (hm : maxL ≤ 45) (hn : As.length = na) (hst : (st.map fun v => v.category).sum ≤ 8) (hdg : decode cc pc = .ok (.invokevirtual i, 3)) (hc : cells + mc ≤ R.cells ∧ slots + ms ≤ R.slots) (k : Wk p l e R s m args below meth c G nL Q (cells + mc) (slots + ms) n' ce' (pc + 3) ls (r.toList ++ st)) : Wk p l e R s m args below meth c G nL Q cells slots n ce pc ls (As.reverse ++ .ref b :: st) := by
  intro lsA H locs hL hr hS
  rw [jstack]
  exact jrun hL hS (va_runV (As := As.map (jV G)) (b := jad G b) ⟨C.1, C.2.1, C.2.2.1, C.2.2.2.1, C.2.2.2.2.1⟩ hM ⟨jCallB C o hl hd hm, C.2.2.2.2.1 _ hi, C.2.2.2.2.1 _ hs⟩ ⟨(jpre C hr hS).1, jrecv C hr hb hbe hbc, (jpre (av := .ref b :: As) C hr hS).2⟩ rfl (by rw [List.length_map]; exact hn) hL.1 rfl (lv_room (by rw [jV_cats]; exact hst)) hdg hc) k
theorem w_callVN {y : MethodName} {bytes : ByteArray} {maxL na d mc ms i n' ci N b : Nat} {ret : Option FieldType} {As : List Value} {r : Option Value} {ce' : Nat → va_E} {fs : List Value} {T : u_T} {host : String} (C : jCx p R s m args meth c G cc nL D own) (o : jok y bytes maxL ret na) (hM : jMet l y bytes maxL ret d mc ms G (.ref b :: As) n ce r n' ce') (hb : b < n) (hbe : ce b = .inr (ci, fs)) (hbc : jcl[ci]? = some (y.cls, T, N)) (hl : (own, i, y, host) ∈ jnest) (hi : Cond.instanceMethod y ∈ jTW) (hs : Cond.selects y.cls y y ∈ jTW) (hd : d + 1 ≤ D) (hm : maxL ≤ 45) (hn : As.length = na) (hst : (st.map fun v => v.category).sum ≤ 8) (hdg : decode cc pc = .ok (.invokevirtual i, 3)) (hc : cells + mc ≤ R.cells ∧ slots + ms ≤ R.slots) (k : Wk p l e R s m args below meth c G nL Q (cells + mc) (slots + ms) n' ce' (pc + 3) ls (r.toList ++ st)) : Wk p l e R s m args below meth c G nL Q cells slots n ce pc ls (As.reverse ++ .ref b :: st) := by
  intro lsA H locs hL hr hS
  rw [jstack]
  exact jrun hL hS (va_runVN (As := As.map (jV G)) (b := jad G b) ⟨C.1, C.2.1, C.2.2.1, C.2.2.2.1, C.2.2.2.2.1⟩ hM ⟨jCallN C o hl hd hm, C.2.2.2.2.1 _ hi, C.2.2.2.2.1 _ hs⟩ ⟨(jpre C hr hS).1, jrecv C hr hb hbe hbc, (jpre (av := .ref b :: As) C hr hS).2⟩ rfl (by rw [List.length_map]; exact hn) hL.1 rfl (lv_room (by rw [jV_cats]; exact hst)) hdg hc) k
theorem w_callS {y : MethodName} {bytes : ByteArray} {maxL na d mc ms i n' : Nat} {ret : Option FieldType} {As : List Value} {r : Option Value} {ce' : Nat → va_E} (C : jCx p R s m args meth c G cc nL D own) (o : jok y bytes maxL ret na) (hM : jMet l y bytes maxL ret d mc ms G As n ce r n' ce') (hl : Cond.methodLink own i y ∈ jTW) (hi : Cond.static y ∈ jTW) (hd : d + 1 ≤ D) (hm : maxL ≤ 45) (hn : As.length = na) (hst : (st.map fun v => v.category).sum ≤ 8) (hdg : decode cc pc = .ok (.invokestatic i, 3)) (hc : cells + mc ≤ R.cells ∧ slots + ms ≤ R.slots) (k : Wk p l e R s m args below meth c G nL Q (cells + mc) (slots + ms) n' ce' (pc + 3) ls (r.toList ++ st)) : Wk p l e R s m args below meth c G nL Q cells slots n ce pc ls (As.reverse ++ st) := by
  intro lsA H locs hL hr hS
  rw [jstackS]
  exact jrun hL hS (va_runS (As := As.map (jV G)) ⟨C.1, C.2.1, C.2.2.1, C.2.2.2.1, C.2.2.2.2.1⟩ hM ⟨jCallB C o hl hd hm, C.2.2.2.2.1 _ hi⟩ (jpre C hr hS) rfl (by rw [List.length_map]; exact hn) hL.1 rfl (lv_room (by rw [jV_cats]; exact hst)) hdg hc) k
theorem w_callSN {y : MethodName} {bytes : ByteArray} {maxL na d mc ms i n' : Nat} {ret : Option FieldType} {As : List Value} {r : Option Value} {ce' : Nat → va_E} {host : String} (C : jCx p R s m args meth c G cc nL D own) (o : jok y bytes maxL ret na) (hM : jMet l y bytes maxL ret d mc ms G As n ce r n' ce') (hl : (own, i, y, host) ∈ jnest) (hi : Cond.static y ∈ jTW) (hd : d + 1 ≤ D) (hm : maxL ≤ 45) (hn : As.length = na) (hst : (st.map fun v => v.category).sum ≤ 8) (hdg : decode cc pc = .ok (.invokestatic i, 3)) (hc : cells + mc ≤ R.cells ∧ slots + ms ≤ R.slots) (k : Wk p l e R s m args below meth c G nL Q (cells + mc) (slots + ms) n' ce' (pc + 3) ls (r.toList ++ st)) : Wk p l e R s m args below meth c G nL Q cells slots n ce pc ls (As.reverse ++ st) := by
  intro lsA H locs hL hr hS
  rw [jstackS]
  exact jrun hL hS (va_runSN (As := As.map (jV G)) ⟨C.1, C.2.1, C.2.2.1, C.2.2.2.1, C.2.2.2.2.1⟩ hM ⟨jCallN C o hl hd hm, C.2.2.2.2.1 _ hi, trivial⟩ (jpre C hr hS) rfl (by rw [List.length_map]; exact hn) hL.1 rfl (lv_room (by rw [jV_cats]; exact hst)) hdg hc) k
theorem w_callI {y : MethodName} {bytes : ByteArray} {maxL na d mc ms i n' b : Nat} {As : List Value} {ce' : Nat → va_E} (C : jCx p R s m args meth c G cc nL D own) (o : jok y bytes maxL none na) (hM : jMet l y bytes maxL none d mc ms G (.ref b :: As) n ce none n' ce') (hl : Cond.methodLink own i y ∈ jTW) (hi : Cond.instanceMethod y ∈ jTW) (hy : y.name = "<init>") (hd : d + 1 ≤ D) (hm : maxL ≤ 45) (hn : As.length = na) (hst : (st.map fun v => v.category).sum ≤ 8) (hdg : decode cc pc = .ok (.invokespecial i, 3)) (hc : cells + mc ≤ R.cells ∧ slots + ms ≤ R.slots) (k : Wk p l e R s m args below meth c G nL Q (cells + mc) (slots + ms) n' ce' (pc + 3) ls st) : Wk p l e R s m args below meth c G nL Q cells slots n ce pc ls (As.reverse ++ .ref b :: st) := by
  intro lsA H locs hL hr hS
  rw [jstack]
  exact jrun (r := none) hL hS (va_runI (As := As.map (jV G)) (b := jad G b) ⟨C.1, C.2.1, C.2.2.1, C.2.2.2.1, C.2.2.2.2.1⟩ hM ⟨jCallB C o hl hd hm, hy, C.2.2.2.2.1 _ hi⟩ ⟨(jpre C hr hS).1, (jpre (av := .ref b :: As) C hr hS).2⟩ rfl (by rw [List.length_map]; exact hn) hL.1 rfl (lv_room (by rw [jV_cats]; exact hst)) hdg hc) k
/-- ends of a method -/
theorem w_iret {v : Int32} {ty : FieldType} (C : jCx p R s m args meth c G cc nL D own) (hr : meth.sig.returnType = some ty) (hn : narrow ty (.int v) = .int v) (hdg : decode cc pc = .ok (.ireturn, 1)) : Wk p l e R s m args below meth c G nL (MQ below (Qj G (some (.int v)) n ce) args s cells slots (jAb G)) cells slots n ce pc ls [.int v] := fun lsA H locs hl hrp hS =>
  W.zret C.1 C.2.1 hr hn (fun t ht _ => ⟨⟨rfl, by rw [ht]; exact hrp⟩, hS.F ht⟩) hS.2.2 hdg C.2.2.2.2.2.2.2.1
theorem w_lret {v : Int64} (C : jCx p R s m args meth c G cc nL D own) (hr : meth.sig.returnType = some .long) (hdg : decode cc pc = .ok (.lreturn, 1)) : Wk p l e R s m args below meth c G nL (MQ below (Qj G (some (.long v)) n ce) args s cells slots (jAb G)) cells slots n ce pc ls [.long v] := fun lsA H locs hl hrp hS =>
  W.lret C.1 C.2.1 hr (fun t ht _ => ⟨⟨rfl, by rw [ht]; exact hrp⟩, hS.F ht⟩) hS.2.2 hdg C.2.2.2.2.2.2.2.1
theorem w_vret (C : jCx p R s m args meth c G cc nL D own) (hr : meth.sig.returnType = none) (hdg : decode cc pc = .ok (.return_, 1)) : Wk p l e R s m args below meth c G nL (MQ below (Qj G none n ce) args s cells slots (jAb G)) cells slots n ce pc ls [] := fun lsA H locs hl hrp hS =>
  W.vret C.1 C.2.1 hr (fun t ht _ => ⟨⟨rfl, by rw [ht]; exact hrp⟩, hS.F ht⟩) hS.2.2 hdg C.2.2.2.2.2.2.2.1
/-- the locals at a method's entry -/
def jent : List Value → Nat → List (Option Value)
  | [], n => List.replicate n none
  | v :: vs, n => if v.category = 2 then some v :: none :: jent vs (n - 2) else some v :: jent vs (n - 1)
theorem jent_in (av : List Value) : ∀ (n k i : Nat) (v : Value), (jent av n)[i]? = some (some v) → (k + i, jV G v) ∈ lv_args k (av.map (jV G)) := by
  induction av with
  | nil => intro n k i v h; unfold jent at h; rw [List.getElem?_replicate] at h; split at h <;> cases h
  | cons w ws ih =>
    intro n k i v h
    unfold jent at h
    show _ ∈ (k, jV G w) :: lv_args (if (jV G w).category = 2 then k + 2 else k + 1) (ws.map (jV G))
    rw [jV_cat]
    split at h
    · next hc =>
      rw [if_pos hc]
      match i, h with
      | 0, h => cases h; exact List.mem_cons_self
      | 1, h => cases h
      | i + 2, h =>
        have h2 := ih (n - 2) (k + 2) i v h
        rw [show k + 2 + i = k + (i + 2) by omega] at h2
        exact List.mem_cons_of_mem _ h2
    · next hc =>
      rw [if_neg hc]
      match i, h with
      | 0, h => cases h; exact List.mem_cons_self
      | i + 1, h =>
        have h2 := ih (n - 1) (k + 1) i v h
        rw [show k + 1 + i = k + (i + 1) by omega] at h2
        exact List.mem_cons_of_mem _ h2
end
theorem jofWF {l : Launch} {y : MethodName} {ws ws' : List Cond} {rm : Room} {Pc : Array Value → State → Prop} {Qc : Array Value → State → Outcome → State → Prop} {mc ms : Nat} {free : Addr → Prop} {cc : ByteArray} {maxL : Nat} {ret : Option FieldType}
    (hy : plainFor y = true) (hw : ws = Cond.code y cc maxL ret :: ws')
    (body : ∀ p e s m args below meth c s₁, BodyLoose p l y (headSpec ws rm) cc maxL ret e s m args below meth c s₁ → c.maxLocals = maxL → Pc args s →
      W p l e (headSpec ws rm).room s m args below meth c s.heap [] 0 0 (MQ below Qc args s mc ms free) (entryFrame m args maxL)) : Met l y ws rm Pc Qc mc ms free := by
  refine MetFree.of_bodySF (code := cc) (maxLocals := maxL) (ret := ret) hy ?_ ?_
  · intro args s m h hn
    obtain ⟨meth, c, h1, h2, h3, h4, h5, h6, -, -⟩ := Cond.code_spec hn (atoms_spec (ws := ws) h _ (by rw [hw]; exact List.mem_cons_self))
    exact ⟨meth, c, h1, h2, h3, h4, h5, h6⟩
  · intro p e s m args below meth c s₁ B hml hP _
    have hh0 : s₁.heap = s.heap := by rw [B.state]; rfl
    obtain ⟨t, a1, o, b1, b2, b3⟩ := body p e s m args below meth c s₁ B hml hP s₁ hh0 (Stand.of_body B)
    exact ⟨t, o, a1, b1, b2, ⟨b3.1, b3.2⟩⟩
theorem j_met {l : Launch} {y : MethodName} {bytes : ByteArray} {maxL d mc ms : Nat} {ret : Option FieldType} {G : JG} {av : List Value} {n n' : Nat} {ce ce' : Nat → va_E} {r : Option Value} {na : Nat} (o : jok y bytes maxL ret na) (hd : 1 ≤ d) (hent : (lg_sl (av.map (jV G))).length ≤ maxL) (body : ∀ p e s m args below meth c, jCx p (jrm d mc ms) s m args meth c G bytes maxL d y.cls → meth.sig.returnType = ret → meth.name = y.name → Wk p l e (jrm d mc ms) s m args below meth c G maxL (MQ below (Qj G r n' ce') args s mc ms (jAb G)) 0 0 n ce 0 (jent av maxL) []) : jMet l y bytes maxL ret d mc ms G av n ce r n' ce' := by
  refine jofWF (cc := bytes) (maxL := maxL) (ret := ret) o.2.2.2.2 rfl ?_
  intro p e s m args below meth c s₁ B hml hv
  obtain ⟨rfl, hX, hr⟩ := hv
  have hts := atoms_spec (ws := Cond.code y bytes maxL ret :: jTW) B.pre
  have C : jCx p (jrm d mc ms) s m (av.map (jV G)).toArray meth c G bytes maxL d y.cls :=
    ⟨B.exec, B.bytes, hml, findClass_of_methodNamed B.named, fun w hw => hts w (List.mem_cons_of_mem _ hw), hX, hr.1, B.notSynchronized, Nat.le_refl _, Nat.le_refl _, hd⟩
  have hl := lv_entry (av.map (jV G)) (n := maxL) hent
  rw [lg_entry_eq]
  exact body p e s m _ below meth c C B.returns (name_of_methodNamed B.named B.method).1 _ s.heap [] ⟨hl.1, hl.2.1, fun i v hv => by have := hl.2.2 _ (jent_in (G := G) av maxL 0 i v hv); rw [Nat.zero_add] at this; exact this⟩ hr va_S.rf
