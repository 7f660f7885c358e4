/-! what the objects hold: laid by wip/whole/gen.py -/
abbrev K0 : Type := Int32 × Int32 × Int32 × Int32 × Int32 × Int32 × Int32
abbrev o0 (u : K0) : List Value := [.int u.1, .int u.2.1, .int u.2.2.1, .int u.2.2.2.1, .int u.2.2.2.2.1, .int u.2.2.2.2.2.1, .int u.2.2.2.2.2.2]
abbrev K1 : Type := Int32
abbrev o1 (h0 : Nat) (h1 : Nat) (u : K1) : List Value := [.ref h0, .ref h1, .int u]
abbrev K2 : Type := Int32
abbrev o2 (h0 : Nat) (h1 : Nat) (h2 : Nat) (u : K2) : List Value := [.ref h0, .ref h1, .ref h2, .int u]
abbrev K3 : Type := Int32 × Int32 × Int32 × Int32 × Int32 × Int32
abbrev o3 (h0 : Nat) (u : K3) : List Value := [.ref h0, .int u.1, .int u.2.1, .int u.2.2.1, .int u.2.2.2.1, .int u.2.2.2.2.1, .int u.2.2.2.2.2]
abbrev K4 : Type := Int32 × Int32 × Int32 × Int32 × Int32 × Int32 × Int32 × Int32 × Int32 × Int32 × Int32
abbrev o4 (u : K4) : List Value := [.int u.1, .int u.2.1, .int u.2.2.1, .int u.2.2.2.1, .int u.2.2.2.2.1, .int u.2.2.2.2.2.1, .int u.2.2.2.2.2.2.1, .int u.2.2.2.2.2.2.2.1, .int u.2.2.2.2.2.2.2.2.1, .int u.2.2.2.2.2.2.2.2.2.1, .int u.2.2.2.2.2.2.2.2.2.2]
abbrev K5 : Type := Int32
abbrev o5 (h0 : Nat) (h1 : Nat) (u : K5) : List Value := [.ref h0, .ref h1, .int u]
abbrev K6 : Type := Int64
abbrev o6 (x : Nat → Nat) (u : K6) : List Value := [.ref (x 1), .ref (x 3), .ref (x 4), .ref (x 5), .ref (x 8), .ref (x 9), .ref (x 13), .ref (x 14), .ref (x 15), .ref (x 18), .long u, .ref (x 21), .ref (x 22), .ref (x 23), .ref (x 24), .ref (x 25)]
abbrev K7 : Type := Int64 × Int32 × Int32 × Int32 × Int32 × Int32 × Int32 × Int32 × Int32 × Int32 × Int32 × Int32
abbrev o7 (x : Nat → Nat) (u : K7) : List Value := [.long u.1, .ref (x 1), .int u.2.1, .ref (x 2), .int u.2.2.1, .int u.2.2.2.1, .int u.2.2.2.2.1, .int u.2.2.2.2.2.1, .int u.2.2.2.2.2.2.1, .ref (x 3), .ref (x 4), .ref (x 5), .ref (x 6), .int u.2.2.2.2.2.2.2.1, .ref (x 7), .ref (x 8), .ref (x 9), .ref (x 10), .ref (x 11), .int u.2.2.2.2.2.2.2.2.1, .int u.2.2.2.2.2.2.2.2.2.1, .ref (x 12), .ref (x 13), .ref (x 14), .int u.2.2.2.2.2.2.2.2.2.2.1, .ref (x 15), .ref (x 16), .int u.2.2.2.2.2.2.2.2.2.2.2, .ref (x 17), .ref (x 18)]
def xim (x : Nat → Nat) : Nat → Option Nat := va_up (va_up (fun _ => none) 0 (some (x 6))) 1 (some (x 7))
section XC
variable {p : Program} {l : Launch} {e : Env} {R : Room} {s : State} {m : MethodId} {args : Array Value} {below : List Frame} {meth : Method} {c : Code} {H : Heap} {locs : List Loc} {cells slots mc ms : Nat} {Q : State → Prop}
variable {cc : ByteArray} {pc : Nat} {ls : Array Slot} {rest st0 : List Value} {D : va_G} {T : xT} {A : Nat → Prop} {H0 : Heap} {a : Array Value} {W0 wc : va_W}
theorem xretvu {B : (Nat → Nat) → va_W} (u : Nat → Nat) {post : (Nat → Nat) → Prop} (hx : p.tables.exec = Jvm.exec) (hb : c.code = cc) (hr : meth.sig.returnType = none) (hlocks : meth.locks = false) (hp : post u) (hP : va_P D vwCl (B u) H) (hK : va_K D vwCl (xty T) s) (hD : va_D A (B u)) (hS : va_S A s.heap H locs) (hdg : decode cc pc = .ok (.return_, 1)) :
    W p l e R s m args below meth c H locs cells slots (MQ below (va_Qv post (fun u => xPost D T (B u) A) A) args s cells slots A) (F0 m pc ls []) :=
  W.vret hx hb hr (fun t ht hW => ⟨⟨u, rfl, hp, by rw [ht]; exact hP, va_K.moved hW.alike hK, hD⟩, hS.F ht⟩) hS.2.2 hdg hlocks
/-- behind a constructor: all other cells, then the callee's world -/
theorem xafto {B : (Nat → Nat) → va_W} {wr : va_W} (hr : va_Run p l e R s m args below meth c H locs cells slots mc ms (F0 m pc ls st0) rest (va_Qv (fun (_ : Nat → Nat) => True) (fun u => xPost D T (B u) (va_A wc H.size)) (va_A wc H.size) a) (va_A wc H.size)) (hP : va_P D vwCl W0 H) (hD : va_D A W0) (hS : va_S A H0 H locs) (hA : ∀ q : Nat, H0.size ≤ q → A q)
    (isC isR : List Nat) (hC : isC.map (fun i => W0[i]?) = wc.map some) (hR : isR.map (fun i => W0[i]?) = wr.map some) (hn : va_nd isR = true) (hdis : ∀ i ∈ isR, i ∉ isC)
    (kk : ∀ (u : Nat → Nat) (H1 : Heap) (locs1 : List Loc), va_P D vwCl (wr ++ B u) H1 → va_D A (wr ++ B u) → va_S A H0 H1 locs1 → W p l e R s m args below meth c H1 locs1 (cells + mc) (slots + ms) Q (F0 m (pc + 3) ls rest)) : W p l e R s m args below meth c H locs cells slots Q (F0 m pc ls st0) := by
  have hF := va_free (wc := wc) hD hS hA isC hC
  refine va_callv hr hS (fun q _ h => hF q h) hF (fun u t H1 locs1 ht hvm hp hB hz hk hS1 => ?_)
  obtain ⟨hP2, hD2⟩ := va_join (wr := wr) (w1 := B u) hP hD isC isR hC hR hn hdis hk hF (by rw [← ht]; exact hB.1) hB.2.2
  exact kk u H1 locs1 hP2 hD2 hS1
end XC

