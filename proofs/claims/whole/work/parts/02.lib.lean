/-! MY OWN ROWS: worlds, contracts and calls in one form for all methods; functional readings of methods are Option-valued; a loop is xlp -/
abbrev xT : Type := ClassId × ClassId × ClassId × ClassId
abbrev xty (T : xT) : List (ClassId × FieldType) := [(T.1, .int), (T.2.1, .byte), (T.2.2.1, .boolean), (T.2.2.2, .object "YardPump$Column")]
def xPre (D : va_G) (T : xT) (W : va_W) (sz : Nat) (E : (Nat → Prop) → State → Prop) : State → Prop := fun U => U.heap.size = sz ∧ va_P D vwCl W U.heap ∧ va_K D vwCl (xty T) U ∧ va_D (fun _ => True) W ∧ E (va_A W sz) U
def xPost (D : va_G) (T : xT) (W : va_W) (A : Nat → Prop) : State → Prop := fun t => va_P D vwCl W t.heap ∧ va_K D vwCl (xty T) t ∧ va_D A W
def xE0 : (Nat → Prop) → State → Prop := fun _ _ => True
/-- the cells at some places are other ones -/
def xput : va_W → List Nat → va_W → va_W
  | W, i :: is, c :: cs => xput (W.set i c) is cs
  | W, _, _ => W
theorem xput_at : ∀ (is : List Nat) (w1 W : va_W) (k : Nat) (q : Nat × va_E), is.length = w1.length → (xput W is w1)[k]? = some q → (∃ j : Nat, w1[j]? = some q) ∨ (k ∉ is ∧ W[k]? = some q)
  | [], w1, W, k, q, _, h => by
    cases w1 <;> exact Or.inr ⟨List.not_mem_nil, h⟩
  | i :: is, [], W, k, q, hl, h => by simp at hl
  | i :: is, c :: cs, W, k, q, hl, h => by
    rcases xput_at is cs (W.set i c) k q (by simpa using hl) h with ⟨j, hj⟩ | ⟨h1, h2⟩
    · exact Or.inl ⟨j + 1, hj⟩
    · by_cases hk : i = k
      · subst hk
        rw [List.getElem?_set] at h2
        by_cases hi : i < W.length
        · simp only [hi, if_true] at h2
          exact Or.inl ⟨0, h2⟩
        · simp [hi] at h2
      · rw [List.getElem?_set_ne hk] at h2
        exact Or.inr ⟨by rw [List.mem_cons]; rintro (q1 | q1); · exact hk q1.symm
                         · exact h1 q1, h2⟩
theorem xD_of {A : Nat → Prop} {W W2 : va_W} (h : W2.map Prod.fst = W.map Prod.fst) (hD : va_D A W) : va_D A W2 := by
  have key : ∀ (k : Nat) (q : Nat × va_E), W2[k]? = some q → ∃ q' : Nat × va_E, W[k]? = some q' ∧ q'.1 = q.1 := by
    intro k q hq
    have h1 : (W2.map Prod.fst)[k]? = some q.1 := by rw [List.getElem?_map, hq]; rfl
    rw [h, List.getElem?_map] at h1
    cases hw : W[k]? with
    | none => rw [hw] at h1; cases h1
    | some q' => rw [hw] at h1; exact ⟨q', rfl, Option.some.inj h1⟩
  refine ⟨fun i j p q hi hj hpq => ?_, fun k q hk => ?_⟩
  · obtain ⟨p', a1, a2⟩ := key i p hi
    obtain ⟨q', b1, b2⟩ := key j q hj
    exact hD.1 i j p' q' a1 b1 (by rw [a2, b2, hpq])
  · obtain ⟨q', a1, a2⟩ := key k q hk
    rw [← a2]
    exact hD.2 k q' a1
theorem xP_put {A : Nat → Prop} {D : va_G} {cl : List vw_C} {W0 wc w1 : va_W} {H H1 : Heap} (hP : va_P D cl W0 H) (hD : va_D A W0) (is : List Nat) (hC : is.map (fun i => W0[i]?) = wc.map some) (hl : is.length = w1.length)
    (hk : ∀ q : Nat, q < H.size → ¬ va_A wc H.size q → H1[q]? = H[q]?) (hP1 : va_P D cl w1 H1) : va_P D cl (xput W0 is w1) H1 := by
  intro k q hq
  rcases xput_at is w1 W0 k q hl hq with ⟨j, hj⟩ | ⟨h1, h2⟩
  · exact hP1 j q hj
  · have hlt := (hP k q h2).lt
    refine (hP k q h2).kept (hk q.1 hlt fun h => ?_)
    rcases h with ⟨k2, e, h⟩ | h
    · have h3 : (is.map (fun i => W0[i]?))[k2]? = some (some (q.1, e)) := by rw [hC, List.getElem?_map, h]; rfl
      rw [List.getElem?_map] at h3
      cases hi : is[k2]? with
      | none => rw [hi] at h3; cases h3
      | some i =>
        rw [hi] at h3
        have h4 : W0[i]? = some (q.1, e) := Option.some.inj h3
        have := hD.1 k i q (q.1, e) h2 h4 rfl
        subst this
        exact h1 (List.mem_of_getElem? hi)
    · omega
/-- a method's contract out of a walk from its first instruction -/
theorem xMet {l : Launch} {y : MethodName} {ws ws' : List Cond} {rm : Room} {av : List Value} {Wd : va_W} {sz : Nat} {D : va_G} {T : xT} {E : (Nat → Prop) → State → Prop} {Qc : (Nat → Prop) → Array Value → State → Outcome → State → Prop} {cc : ByteArray} {maxL mc ms : Nat} {ret : Option FieldType}
    (hy : plainName y.cls = true) (hw : ws = Cond.code y cc maxL ret :: ws') (hn : (lg_sl av).length ≤ maxL)
    (body : ∀ (p : Program) (e : Env) (s : State) (m : MethodId) (below : List Frame) (meth : Method) (c : Code) (A : Nat → Prop) (ls : Array Slot), p.tables.exec = Jvm.exec → c.code = cc → meth.sig.returnType = ret → c.maxLocals = maxL → (∀ w ∈ ws, w.before av.toArray s = true) → s.vm.findClass y.cls = some m.cls → meth.locks = false → meth.name = y.name →
      va_P D vwCl Wd s.heap → va_K D vwCl (xty T) s → va_D A Wd → va_S A s.heap s.heap [] → (∀ q : Nat, s.heap.size ≤ q → A q) → E A s → lv_has ls maxL (lv_args 0 av) →
      W p l e rm s m av.toArray below meth c s.heap [] 0 0 (MQ below (Qc A) av.toArray s mc ms A) (F0 m 0 ls [])) :
    Met l y ws rm (va_Pc av (xPre D T Wd sz E)) (Qc (va_A Wd sz)) mc ms (va_A Wd sz) := by
  refine Met.ofW hy hw ?_
  intro p e s m args below meth c s₁ B hml hv
  obtain ⟨rfl, hsz, hP, hK, hD0, hE⟩ := hv
  subst hsz
  rw [lg_entry_eq]
  exact body p e s m below meth c _ _ B.exec B.bytes B.returns hml (atoms_spec (ws := ws) B.pre) (findClass_of_methodNamed B.named) B.notSynchronized (name_of_methodNamed B.named B.method).1 hP hK hD0.self va_S.rf (fun q h => Or.inr h) hE (lv_entry av hn)
section XW
variable {p : Program} {l : Launch} {e : Env} {R : Room} {s : State} {m : MethodId} {args : Array Value} {below : List Frame} {meth : Method} {c : Code} {H : Heap} {locs : List Loc} {cells slots : Nat} {Q : State → Prop}
variable {cc : ByteArray} {pc : Nat} {ls : Array Slot} {rest st0 : List Value} {D : va_G} {T : xT} {A : Nat → Prop} {H0 : Heap} {a : Array Value} {W0 wc w1 W2 : va_W}
theorem xreti (hx : p.tables.exec = Jvm.exec) (hb : c.code = cc) (hr : meth.sig.returnType = some .int) (hlocks : meth.locks = false) (hP : va_P D vwCl W2 H) (hK : va_K D vwCl (xty T) s) (hD : va_D A W2) (hS : va_S A s.heap H locs) {v rv : Int32} (hdg : decode cc pc = .ok (.ireturn, 1)) (hv : v = rv) :
    W p l e R s m args below meth c H locs cells slots (MQ below (va_Qi (fun (r : Int32) (_ : Unit) => r = rv) (fun _ => xPost D T W2 A) A) args s cells slots A) (F0 m pc ls [.int v]) :=
  W.iret hx hb hr (fun t ht hW => ⟨⟨v, (), rfl, hv, by rw [ht]; exact hP, va_K.moved hW.alike hK, hD⟩, hS.F ht⟩) hS.2.2 hdg hlocks
theorem xretz (hx : p.tables.exec = Jvm.exec) (hb : c.code = cc) {ty : FieldType} (hr : meth.sig.returnType = some ty) (hlocks : meth.locks = false) (hP : va_P D vwCl W2 H) (hK : va_K D vwCl (xty T) s) (hD : va_D A W2) (hS : va_S A s.heap H locs) {v rv : Int32} (hdg : decode cc pc = .ok (.ireturn, 1)) (hv : v = rv) (hn : narrow ty (.int v) = .int v) :
    W p l e R s m args below meth c H locs cells slots (MQ below (va_Qi (fun (r : Int32) (_ : Unit) => r = rv) (fun _ => xPost D T W2 A) A) args s cells slots A) (F0 m pc ls [.int v]) :=
  W.zret hx hb hr hn (fun t ht hW => ⟨⟨v, (), rfl, hv, by rw [ht]; exact hP, va_K.moved hW.alike hK, hD⟩, hS.F ht⟩) hS.2.2 hdg hlocks
theorem xretl (hx : p.tables.exec = Jvm.exec) (hb : c.code = cc) (hr : meth.sig.returnType = some .long) (hlocks : meth.locks = false) (hP : va_P D vwCl W2 H) (hK : va_K D vwCl (xty T) s) (hD : va_D A W2) (hS : va_S A s.heap H locs) {v rv : Int64} (hdg : decode cc pc = .ok (.lreturn, 1)) (hv : v = rv) :
    W p l e R s m args below meth c H locs cells slots (MQ below (va_Ql (fun (r : Int64) (_ : Unit) => r = rv) (fun _ => xPost D T W2 A) A) args s cells slots A) (F0 m pc ls [.long v]) :=
  W.lret hx hb hr (fun t ht hW => ⟨⟨v, (), rfl, hv, by rw [ht]; exact hP, va_K.moved hW.alike hK, hD⟩, hS.F ht⟩) hS.2.2 hdg hlocks
theorem xretv (hx : p.tables.exec = Jvm.exec) (hb : c.code = cc) (hr : meth.sig.returnType = none) (hlocks : meth.locks = false) (hP : va_P D vwCl W2 H) (hK : va_K D vwCl (xty T) s) (hD : va_D A W2) (hS : va_S A s.heap H locs) (hdg : decode cc pc = .ok (.return_, 1)) :
    W p l e R s m args below meth c H locs cells slots (MQ below (va_Qv (fun (_ : Unit) => True) (fun _ => xPost D T W2 A) A) args s cells slots A) (F0 m pc ls []) :=
  W.vret hx hb hr (fun t ht hW => ⟨⟨(), rfl, trivial, by rw [ht]; exact hP, va_K.moved hW.alike hK, hD⟩, hS.F ht⟩) hS.2.2 hdg hlocks
/-- behind a call of a method that makes nothing: the callee's cells at their places, all else as it was -/
theorem xafti {rv : Int32} (hr : va_Run p l e R s m args below meth c H locs cells slots 0 0 (F0 m pc ls st0) rest (va_Qi (fun (r : Int32) (_ : Unit) => r = rv) (fun _ => xPost D T w1 (va_A wc H.size)) (va_A wc H.size) a) (va_A wc H.size)) (hP : va_P D vwCl W0 H) (hD : va_D A W0) (hS : va_S A H0 H locs) (hA : ∀ q : Nat, H0.size ≤ q → A q)
    (is : List Nat) (hC : is.map (fun i => W0[i]?) = wc.map some) (hl : is.length = w1.length) (h2 : xput W0 is w1 = W2) (hf : W2.map Prod.fst = W0.map Prod.fst)
    (kk : ∀ (H1 : Heap) (locs1 : List Loc), va_P D vwCl W2 H1 → va_D A W2 → va_S A H0 H1 locs1 → W p l e R s m args below meth c H1 locs1 cells slots Q (F0 m (pc + 3) ls (.int rv :: rest))) : W p l e R s m args below meth c H locs cells slots Q (F0 m pc ls st0) := by
  have hF := va_free (wc := wc) hD hS hA is hC
  refine va_calli hr hS (fun q _ h => hF q h) hF (fun r u t H1 locs1 ht hvm hp hB hz hk hS1 => ?_)
  subst hp
  refine kk H1 locs1 ?_ (xD_of hf hD) hS1
  rw [← h2]
  exact xP_put hP hD is hC hl hk (by rw [← ht]; exact hB.1)
theorem xaftl {rv : Int64} (hr : va_Run p l e R s m args below meth c H locs cells slots 0 0 (F0 m pc ls st0) rest (va_Ql (fun (r : Int64) (_ : Unit) => r = rv) (fun _ => xPost D T w1 (va_A wc H.size)) (va_A wc H.size) a) (va_A wc H.size)) (hP : va_P D vwCl W0 H) (hD : va_D A W0) (hS : va_S A H0 H locs) (hA : ∀ q : Nat, H0.size ≤ q → A q)
    (is : List Nat) (hC : is.map (fun i => W0[i]?) = wc.map some) (hl : is.length = w1.length) (h2 : xput W0 is w1 = W2) (hf : W2.map Prod.fst = W0.map Prod.fst)
    (kk : ∀ (H1 : Heap) (locs1 : List Loc), va_P D vwCl W2 H1 → va_D A W2 → va_S A H0 H1 locs1 → W p l e R s m args below meth c H1 locs1 cells slots Q (F0 m (pc + 3) ls (.long rv :: rest))) : W p l e R s m args below meth c H locs cells slots Q (F0 m pc ls st0) := by
  have hF := va_free (wc := wc) hD hS hA is hC
  refine va_calll hr hS (fun q _ h => hF q h) hF (fun r u t H1 locs1 ht hvm hp hB hz hk hS1 => ?_)
  subst hp
  refine kk H1 locs1 ?_ (xD_of hf hD) hS1
  rw [← h2]
  exact xP_put hP hD is hC hl hk (by rw [← ht]; exact hB.1)
theorem xaftv (hr : va_Run p l e R s m args below meth c H locs cells slots 0 0 (F0 m pc ls st0) rest (va_Qv (fun (_ : Unit) => True) (fun _ => xPost D T w1 (va_A wc H.size)) (va_A wc H.size) a) (va_A wc H.size)) (hP : va_P D vwCl W0 H) (hD : va_D A W0) (hS : va_S A H0 H locs) (hA : ∀ q : Nat, H0.size ≤ q → A q)
    (is : List Nat) (hC : is.map (fun i => W0[i]?) = wc.map some) (hl : is.length = w1.length) (h2 : xput W0 is w1 = W2) (hf : W2.map Prod.fst = W0.map Prod.fst)
    (kk : ∀ (H1 : Heap) (locs1 : List Loc), va_P D vwCl W2 H1 → va_D A W2 → va_S A H0 H1 locs1 → W p l e R s m args below meth c H1 locs1 cells slots Q (F0 m (pc + 3) ls rest)) : W p l e R s m args below meth c H locs cells slots Q (F0 m pc ls st0) := by
  have hF := va_free (wc := wc) hD hS hA is hC
  refine va_callv hr hS (fun q _ h => hF q h) hF (fun u t H1 locs1 ht hvm hp hB hz hk hS1 => ?_)
  refine kk H1 locs1 ?_ (xD_of hf hD) hS1
  rw [← h2]
  exact xP_put hP hD is hC hl hk (by rw [← ht]; exact hB.1)
theorem xpvv {As : List Value} {E : (Nat → Prop) → State → Prop} {b : Nat} (hP : va_P D vwCl W0 H) (hD : va_D A W0) (hK : va_K D vwCl (xty T) s) (is : List Nat) (hnd : va_nd is = true) (hC : is.map (fun i => W0[i]?) = wc.map some) (q0 ci : Nat) {r : vw_C} {fs : List Value} (hc : vwCl[ci]? = some r) (he : wc[q0]? = some (b, .inr (ci, fs)))
    (hE : ∀ U : State, U.heap = H → s.WarmedH U.vm → E (va_A wc H.size) U) (hEb : ∀ (B : Nat → Prop) (U : State) (g : JFrame) (mk : MethodId) (a : Array Value), E B U → E B (U.calling g mk a)) : PreV s H r.1 b (va_Pc (.ref b :: As) (xPre D T wc H.size E)) As := by
  have hPc : va_P D vwCl wc H := hP.sub is (by
    have : is.filterMap (fun i => W0[i]?) = (is.map (fun i => W0[i]?)).filterMap id := by rw [List.filterMap_map]; rfl
    rw [this, hC, List.filterMap_map]; simp)
  have hDc := hD.sub is hnd hC
  exact ⟨fun a U g mk q => by obtain ⟨q0, q1, qP, qK, qD, qE⟩ := q; exact ⟨q0, q1, qP, va_K.moved (u := U) (U := U.calling g mk a) (Vm.Alike.refl U.vm) qK, qD, hEb _ _ _ _ _ qE⟩, va_recv hK hPc hc he, fun U hU hW => ⟨rfl, by rw [hU], by rw [hU]; exact hPc, va_K.moved hW.alike hK, hDc.weaken (fun _ _ _ _ => trivial), hE U hU hW⟩⟩
theorem xpvs {As : List Value} {E : (Nat → Prop) → State → Prop} (hP : va_P D vwCl W0 H) (hD : va_D A W0) (hK : va_K D vwCl (xty T) s) (is : List Nat) (hnd : va_nd is = true) (hC : is.map (fun i => W0[i]?) = wc.map some)
    (hE : ∀ U : State, U.heap = H → s.WarmedH U.vm → E (va_A wc H.size) U) (hEb : ∀ (B : Nat → Prop) (U : State) (g : JFrame) (mk : MethodId) (a : Array Value), E B U → E B (U.calling g mk a)) : PreS s H (va_Pc As (xPre D T wc H.size E)) As := by
  have hPc : va_P D vwCl wc H := hP.sub is (by
    have : is.filterMap (fun i => W0[i]?) = (is.map (fun i => W0[i]?)).filterMap id := by rw [List.filterMap_map]; rfl
    rw [this, hC, List.filterMap_map]; simp)
  have hDc := hD.sub is hnd hC
  exact ⟨fun a U g mk q => by obtain ⟨q0, q1, qP, qK, qD, qE⟩ := q; exact ⟨q0, q1, qP, va_K.moved (u := U) (U := U.calling g mk a) (Vm.Alike.refl U.vm) qK, qD, hEb _ _ _ _ _ qE⟩, fun U hU hW => ⟨rfl, by rw [hU], by rw [hU]; exact hPc, va_K.moved hW.alike hK, hDc.weaken (fun _ _ _ _ => trivial), hE U hU hW⟩⟩
end XW
/-! functional readings -/
def xlp {σ τ : Type} (st : σ → Option (σ ⊕ τ)) : Nat → σ → Option τ
  | 0, _ => none
  | n + 1, x => (st x).bind fun z => match z with
    | .inl y => xlp st n y
    | .inr t => some t
theorem xlp_s {σ τ : Type} {st : σ → Option (σ ⊕ τ)} {n : Nat} {x : σ} {t : τ} (h : xlp st (n + 1) x = some t) : ∃ z, st x = some z ∧ (∀ y, z = .inl y → xlp st n y = some t) ∧ (∀ t', z = .inr t' → t' = t) := by
  unfold xlp at h
  cases hz : st x with
  | none => rw [hz] at h; cases h
  | some z =>
    rw [hz] at h
    refine ⟨z, rfl, fun y hy => ?_, fun t' ht => ?_⟩
    · subst hy; exact h
    · subst ht; exact Option.some.inj h
theorem xlp_0 {σ τ : Type} {st : σ → Option (σ ⊕ τ)} {x : σ} {t : τ} (h : xlp st 0 x = some t) : False := by cases h
theorem xbd {α β : Type} {o : Option α} {f : α → Option β} {r : β} (h : o.bind f = some r) : ∃ v, o = some v ∧ f v = some r := by
  cases o with
  | none => cases h
  | some v => exact ⟨v, rfl, h⟩
theorem xit {c : Prop} [Decidable c] {α : Type} {a b r : α} (hc : c) (h : (if c then a else b) = r) : a = r := by rwa [if_pos hc] at h
theorem xif {c : Prop} [Decidable c] {α : Type} {a b r : α} (hc : ¬ c) (h : (if c then a else b) = r) : b = r := by rwa [if_neg hc] at h
def xin (i : Int32) (n : Nat) : Bool := decide (0 ≤ i.toInt) && decide (i.toInt < n)
theorem xin_vp {i : Int32} {n : Nat} (h : xin i n = true) : vp_in i n := by
  unfold xin at h
  rw [Bool.and_eq_true, decide_eq_true_eq, decide_eq_true_eq] at h
  exact vp_in_iff.mpr h
theorem xck {i : Int32} {n : Nat} {α : Type} {a : Option α} {r : α} (h : (if xin i n = true then a else none) = some r) : vp_in i n ∧ a = some r := by
  by_cases hc : xin i n = true
  · rw [if_pos hc] at h; exact ⟨xin_vp hc, h⟩
  · rw [if_neg hc] at h; cases h
theorem xnz {y : Int32} {α : Type} {a : Option α} {r : α} (h : (if y = 0 then none else a) = some r) : ¬ y = 0 ∧ a = some r := by
  by_cases hc : y = 0
  · rw [if_pos hc] at h; cases h
  · rw [if_neg hc] at h; exact ⟨hc, h⟩
theorem xnzl {y : Int64} {α : Type} {a : Option α} {r : α} (h : (if y = 0 then none else a) = some r) : ¬ y = 0 ∧ a = some r := by
  by_cases hc : y = 0
  · rw [if_pos hc] at h; cases h
  · rw [if_neg hc] at h; exact ⟨hc, h⟩
theorem xpos {y : Int32} (h : 0 < y) : ¬ y = 0 := fun q => by rw [q] at h; exact absurd h (by decide)
theorem xsw {x k : Int32} {n : Int} (h : ¬ x = k) (hk : k.toInt = n) : x.toInt ≠ n := fun q => h (Int32.toInt_inj.mp (by rw [q, hk]))
abbrev xmax (x y : Int32) : Int32 := if x < y then y else x
abbrev xmin (x y : Int32) : Int32 := if y < x then y else x
abbrev xabsl (x : Int64) : Int64 := if 0 < x then x else -x
theorem xnle {y : Int32} (h : ¬ y ≤ 0) : ¬ y = 0 := fun q => h (by rw [q]; decide)
theorem xnz1 {x : Int32} (h : x = 0 ∨ x = 1) : narrow .boolean (.int x) = .int x := by rcases h with rfl | rfl <;> rfl
section XA
variable {p : Program} {l : Launch} {e : Env} {R : Room} {s : State} {m : MethodId} {args : Array Value} {below : List Frame} {meth : Method} {c : Code} {H : Heap} {locs : List Loc} {cells slots : Nat} {Q : State → Prop}
variable {cc : ByteArray} {pc : Nat} {ls : Array Slot} {rest : List Value} {D : va_G} {cl : List vw_C} {A : Nat → Prop} {a : Nat} {tys : List (ClassId × FieldType)} {ws : va_W} {H0 : Heap}
theorem xald (hexec : p.tables.exec = Jvm.exec) (hb : c.code = cc) (hK : va_K D cl tys s) (hP : va_P D cl ws H) (q0 t0 : Nat) {cA : ClassId} {n : Nat} {f : Nat → Int32} (ha : ws[q0]? = some (a, .inl (cA, n, .inl f))) (ht : tys[t0]? = some (cA, .int)) {i v : Int32} (hin : vp_in i n) (hv : f i.toNatClampNeg = v) (hdg : decode cc pc = .ok (.iaload, 1))
    (kk : W p l e R s m args below meth c H locs cells slots Q (F0 m (pc + 1) ls (.int v :: rest))) : W p l e R s m args below meth c H locs cells slots Q (F0 m pc ls (.int i :: .ref a :: rest)) := by
  subst hv; exact va_iald hexec hb hK hP q0 t0 ha ht hin hdg kk
theorem xbld (hexec : p.tables.exec = Jvm.exec) (hb : c.code = cc) (hK : va_K D cl tys s) (hP : va_P D cl ws H) (q0 t0 : Nat) {cA : ClassId} {n : Nat} {f : Nat → Int32} (ha : ws[q0]? = some (a, .inl (cA, n, .inl f))) (ht : tys[t0]? = some (cA, .byte)) {i v : Int32} (hin : vp_in i n) (hv : f i.toNatClampNeg = v) (hdg : decode cc pc = .ok (.baload, 1))
    (kk : W p l e R s m args below meth c H locs cells slots Q (F0 m (pc + 1) ls (.int v :: rest))) : W p l e R s m args below meth c H locs cells slots Q (F0 m pc ls (.int i :: .ref a :: rest)) := by
  subst hv; exact va_bald hexec hb hK hP q0 t0 ha ht hin hdg kk
theorem xzld (hexec : p.tables.exec = Jvm.exec) (hb : c.code = cc) (hK : va_K D cl tys s) (hP : va_P D cl ws H) (q0 t0 : Nat) {cA : ClassId} {n : Nat} {f : Nat → Int32} (ha : ws[q0]? = some (a, .inl (cA, n, .inl f))) (ht : tys[t0]? = some (cA, .boolean)) {i v : Int32} (hin : vp_in i n) (hv : f i.toNatClampNeg = v) (hdg : decode cc pc = .ok (.baload, 1))
    (kk : W p l e R s m args below meth c H locs cells slots Q (F0 m (pc + 1) ls (.int v :: rest))) : W p l e R s m args below meth c H locs cells slots Q (F0 m pc ls (.int i :: .ref a :: rest)) := by
  subst hv; exact va_zald hexec hb hK hP q0 t0 ha ht hin hdg kk
theorem xast (hexec : p.tables.exec = Jvm.exec) (hb : c.code = cc) (hK : va_K D cl tys s) (hP : va_P D cl ws H) (hD : va_D A ws) (hS : va_S A H0 H locs) (q0 t0 : Nat) {cA : ClassId} {n : Nat} {f : Nat → Int32} (ha : ws[q0]? = some (a, .inl (cA, n, .inl f))) (ht : tys[t0]? = some (cA, .int)) {i : Int32} {x : Int32} {k : Nat} (hin : vp_in i n) (hi : i.toNatClampNeg = k) (hdg : decode cc pc = .ok (.iastore, 1))
    (kk : ∀ (H1 : Heap) (locs1 : List Loc), va_P D cl (ws.set q0 (a, .inl (cA, n, .inl (upd f k x)))) H1 → va_D A (ws.set q0 (a, .inl (cA, n, .inl (upd f k x)))) → va_S A H0 H1 locs1 → W p l e R s m args below meth c H1 locs1 cells slots Q (F0 m (pc + 1) ls rest)) : W p l e R s m args below meth c H locs cells slots Q (F0 m pc ls (.int x :: .int i :: .ref a :: rest)) := by
  subst hi; exact va_iast hexec hb hK hP hD hS q0 t0 ha ht hin hdg kk
theorem xbst (hexec : p.tables.exec = Jvm.exec) (hb : c.code = cc) (hK : va_K D cl tys s) (hP : va_P D cl ws H) (hD : va_D A ws) (hS : va_S A H0 H locs) (q0 t0 : Nat) {cA : ClassId} {n : Nat} {f : Nat → Int32} (ha : ws[q0]? = some (a, .inl (cA, n, .inl f))) (ht : tys[t0]? = some (cA, .byte)) {i : Int32} {x y : Int32} {k : Nat} (hin : vp_in i n) (hi : i.toNatClampNeg = k) (hy : vp_nar .byte x = y) (hdg : decode cc pc = .ok (.bastore, 1))
    (kk : ∀ (H1 : Heap) (locs1 : List Loc), va_P D cl (ws.set q0 (a, .inl (cA, n, .inl (upd f k y)))) H1 → va_D A (ws.set q0 (a, .inl (cA, n, .inl (upd f k y)))) → va_S A H0 H1 locs1 → W p l e R s m args below meth c H1 locs1 cells slots Q (F0 m (pc + 1) ls rest)) : W p l e R s m args below meth c H locs cells slots Q (F0 m pc ls (.int x :: .int i :: .ref a :: rest)) := by
  subst hi; subst hy; exact va_bast hexec hb hK hP hD hS q0 t0 ha ht hin hdg kk
theorem xzst (hexec : p.tables.exec = Jvm.exec) (hb : c.code = cc) (hK : va_K D cl tys s) (hP : va_P D cl ws H) (hD : va_D A ws) (hS : va_S A H0 H locs) (q0 t0 : Nat) {cA : ClassId} {n : Nat} {f : Nat → Int32} (ha : ws[q0]? = some (a, .inl (cA, n, .inl f))) (ht : tys[t0]? = some (cA, .boolean)) {i : Int32} {x y : Int32} {k : Nat} (hin : vp_in i n) (hi : i.toNatClampNeg = k) (hy : vp_nar .boolean x = y) (hdg : decode cc pc = .ok (.bastore, 1))
    (kk : ∀ (H1 : Heap) (locs1 : List Loc), va_P D cl (ws.set q0 (a, .inl (cA, n, .inl (upd f k y)))) H1 → va_D A (ws.set q0 (a, .inl (cA, n, .inl (upd f k y)))) → va_S A H0 H1 locs1 → W p l e R s m args below meth c H1 locs1 cells slots Q (F0 m (pc + 1) ls rest)) : W p l e R s m args below meth c H locs cells slots Q (F0 m pc ls (.int x :: .int i :: .ref a :: rest)) := by
  subst hi; subst hy; exact va_zast hexec hb hK hP hD hS q0 t0 ha ht hin hdg kk
theorem xaldq (hexec : p.tables.exec = Jvm.exec) (hb : c.code = cc) (hK : va_K D cl tys s) (hP : va_P D cl ws H) (q0 t0 : Nat) {cA : ClassId} {C : String} {n : Nat} {f : Nat → Option Nat} (ha : ws[q0]? = some (a, .inl (cA, n, .inr (.inr (.inr (.inr f)))))) (ht : tys[t0]? = some (cA, .object C)) {i : Int32} {v : Value} (hin : vp_in i n) (hv : va_rf (f i.toNatClampNeg) = v) (hdg : decode cc pc = .ok (.aaload, 1))
    (kk : W p l e R s m args below meth c H locs cells slots Q (F0 m (pc + 1) ls (v :: rest))) : W p l e R s m args below meth c H locs cells slots Q (F0 m pc ls (.int i :: .ref a :: rest)) := by
  subst hv; exact va_aldq hexec hb hK hP q0 t0 ha ht hin hdg kk
end XA
theorem xlp_inv {σ τ : Type} {st : σ → Option (σ ⊕ τ)} (P : σ → Prop) (Q : τ → Prop) (h1 : ∀ x y, P x → st x = some (.inl y) → P y) (h2 : ∀ x t, P x → st x = some (.inr t) → Q t) : ∀ {n : Nat} {x : σ} {t : τ}, P x → xlp st n x = some t → Q t := by
  intro n
  induction n with
  | zero => intro x t _ h; exact (xlp_0 h).elim
  | succ n ih =>
    intro x t hx h
    obtain ⟨z, hz, hz1, hz2⟩ := xlp_s h
    cases z with
    | inl y => exact ih (h1 x y hx hz) (hz1 y rfl)
    | inr t' => rw [← hz2 t' rfl]; exact h2 x t' hx hz
section XN
variable {p : Program} {l : Launch} {e : Env} {R : Room} {s : State} {m : MethodId} {args : Array Value} {below : List Frame} {meth : Method} {c : Code} {H : Heap} {locs : List Loc} {cells slots : Nat} {Q : State → Prop}
variable {cc : ByteArray} {pc : Nat} {ls : Array Slot} {rest : List Value} {D : va_G} {T : xT} {A : Nat → Prop} {ws : va_W} {H0 : Heap}
theorem xnewI (hexec : p.tables.exec = Jvm.exec) (hb : c.code = cc) (harr : (Cond.arrayClass .int).before args s = true) (hK : va_K D vwCl (xty T) s) (hP : va_P D vwCl ws H) (hD : va_D A ws) (hS : va_S A H0 H locs) (hA : ∀ q, H0.size ≤ q → A q)
    {n : Int32} {N' : Nat} (hn : ¬ n < 0) (hN : n.toNatClampNeg = N') (hbytes : N' * 4 ≤ 536870912) (hcells : cells + 1 ≤ R.cells) (hslots : slots + N' ≤ R.slots) (hdg : decode cc pc = .ok (.newarray .int, 2))
    (kk : ∀ (q : Nat) (H1 : Heap), va_P D vwCl (ws ++ [(q, .inl (T.1, N', .inl (fun _ => 0)))]) H1 → va_D A (ws ++ [(q, .inl (T.1, N', .inl (fun _ => 0)))]) → va_S A H0 H1 locs → W p l e R s m args below meth c H1 locs (cells + 1) (slots + N') Q (F0 m (pc + 2) ls (.ref q :: rest))) : W p l e R s m args below meth c H locs cells slots Q (F0 m pc ls (.int n :: rest)) := by
  refine va_newa (atype := .int) (ty := .int) (a0 := (N', .inl (fun _ => 0))) hexec hb harr rfl hK hP hD hS hA (fun _ => rfl) hn hN hbytes hcells hslots hdg (fun q cA H1 hK' hP' hD' hS' => ?_)
  have e1 : s.vm.findClass _ = some cA := (hK'.2 4 (cA, .int) rfl).2
  have e2 : s.vm.findClass _ = some T.1 := (hK.2 0 (T.1, .int) rfl).2
  have e3 : cA = T.1 := Option.some.inj (e1.symm.trans e2)
  subst e3
  exact kk q H1 hP' hD' hS'
theorem xnewB (hexec : p.tables.exec = Jvm.exec) (hb : c.code = cc) (harr : (Cond.arrayClass .byte).before args s = true) (hK : va_K D vwCl (xty T) s) (hP : va_P D vwCl ws H) (hD : va_D A ws) (hS : va_S A H0 H locs) (hA : ∀ q, H0.size ≤ q → A q)
    {n : Int32} {N' : Nat} (hn : ¬ n < 0) (hN : n.toNatClampNeg = N') (hbytes : N' * 1 ≤ 536870912) (hcells : cells + 1 ≤ R.cells) (hslots : slots + N' ≤ R.slots) (hdg : decode cc pc = .ok (.newarray .byte, 2))
    (kk : ∀ (q : Nat) (H1 : Heap), va_P D vwCl (ws ++ [(q, .inl (T.2.1, N', .inl (fun _ => 0)))]) H1 → va_D A (ws ++ [(q, .inl (T.2.1, N', .inl (fun _ => 0)))]) → va_S A H0 H1 locs → W p l e R s m args below meth c H1 locs (cells + 1) (slots + N') Q (F0 m (pc + 2) ls (.ref q :: rest))) : W p l e R s m args below meth c H locs cells slots Q (F0 m pc ls (.int n :: rest)) := by
  refine va_newa (atype := .byte) (ty := .byte) (a0 := (N', .inl (fun _ => 0))) hexec hb harr rfl hK hP hD hS hA (fun _ => rfl) hn hN hbytes hcells hslots hdg (fun q cA H1 hK' hP' hD' hS' => ?_)
  have e1 : s.vm.findClass _ = some cA := (hK'.2 4 (cA, .byte) rfl).2
  have e2 : s.vm.findClass _ = some T.2.1 := (hK.2 1 (T.2.1, .byte) rfl).2
  have e3 : cA = T.2.1 := Option.some.inj (e1.symm.trans e2)
  subst e3
  exact kk q H1 hP' hD' hS'
theorem xnewZ (hexec : p.tables.exec = Jvm.exec) (hb : c.code = cc) (harr : (Cond.arrayClass .boolean).before args s = true) (hK : va_K D vwCl (xty T) s) (hP : va_P D vwCl ws H) (hD : va_D A ws) (hS : va_S A H0 H locs) (hA : ∀ q, H0.size ≤ q → A q)
    {n : Int32} {N' : Nat} (hn : ¬ n < 0) (hN : n.toNatClampNeg = N') (hbytes : N' * 1 ≤ 536870912) (hcells : cells + 1 ≤ R.cells) (hslots : slots + N' ≤ R.slots) (hdg : decode cc pc = .ok (.newarray .boolean, 2))
    (kk : ∀ (q : Nat) (H1 : Heap), va_P D vwCl (ws ++ [(q, .inl (T.2.2.1, N', .inl (fun _ => 0)))]) H1 → va_D A (ws ++ [(q, .inl (T.2.2.1, N', .inl (fun _ => 0)))]) → va_S A H0 H1 locs → W p l e R s m args below meth c H1 locs (cells + 1) (slots + N') Q (F0 m (pc + 2) ls (.ref q :: rest))) : W p l e R s m args below meth c H locs cells slots Q (F0 m pc ls (.int n :: rest)) := by
  refine va_newa (atype := .boolean) (ty := .boolean) (a0 := (N', .inl (fun _ => 0))) hexec hb harr rfl hK hP hD hS hA (fun _ => rfl) hn hN hbytes hcells hslots hdg (fun q cA H1 hK' hP' hD' hS' => ?_)
  have e1 : s.vm.findClass _ = some cA := (hK'.2 4 (cA, .boolean) rfl).2
  have e2 : s.vm.findClass _ = some T.2.2.1 := (hK.2 2 (T.2.2.1, .boolean) rfl).2
  have e3 : cA = T.2.2.1 := Option.some.inj (e1.symm.trans e2)
  subst e3
  exact kk q H1 hP' hD' hS'
theorem xnewQ (hexec : p.tables.exec = Jvm.exec) (hb : c.code = cc) {own : String} {index : Nat} (hown : s.vm.findClass own = some m.cls) (hclink : (Cond.classLink own index "YardPump$Column").before args s = true) (hover : va_AO "YardPump$Column" s) (hK : va_K D vwCl (xty T) s) (hP : va_P D vwCl ws H) (hD : va_D A ws) (hS : va_S A H0 H locs) (hA : ∀ q, H0.size ≤ q → A q)
    {n : Int32} {N' : Nat} (hn : ¬ n < 0) (hN : n.toNatClampNeg = N') (hbytes : N' * 4 ≤ 536870912) (hcells : cells + 1 ≤ R.cells) (hslots : slots + N' ≤ R.slots) (hdg : decode cc pc = .ok (.anewarray index, 3))
    (kk : ∀ (q : Nat) (H1 : Heap), va_P D vwCl (ws ++ [(q, .inl (T.2.2.2, N', .inr (.inr (.inr (.inr (fun _ => none))))))]) H1 → va_D A (ws ++ [(q, .inl (T.2.2.2, N', .inr (.inr (.inr (.inr (fun _ => none))))))]) → va_S A H0 H1 locs → W p l e R s m args below meth c H1 locs (cells + 1) (slots + N') Q (F0 m (pc + 3) ls (.ref q :: rest))) : W p l e R s m args below meth c H locs cells slots Q (F0 m pc ls (.int n :: rest)) := by
  refine va_newq hexec hb hown hclink hover hK hP hD hS hA hn hN hbytes hcells hslots hdg (fun q cA H1 hK' hP' hD' hS' => ?_)
  obtain ⟨_, _, -, -, -, e1⟩ := (hK'.2 4 (cA, .object "YardPump$Column") rfl).2
  obtain ⟨_, _, -, -, -, e2⟩ := (hK.2 3 (T.2.2.2, .object "YardPump$Column") rfl).2
  have e3 : cA = T.2.2.2 := Option.some.inj (e1.symm.trans e2)
  subst e3
  exact kk q H1 hP' hD' hS'
end XN
