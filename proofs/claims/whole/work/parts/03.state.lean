/-! what the objects hold: laid by wip/whole/gen.py -/
abbrev K0 : Type := Int32 × Int32 × Int32 × Int32 × Int32 × Int32 × Int32
abbrev o0 (u : K0) : List Value := [.int u.1, .int u.2.1, .int u.2.2.1, .int u.2.2.2.1, .int u.2.2.2.2.1, .int u.2.2.2.2.2.1, .int u.2.2.2.2.2.2]
abbrev K1 : Type := Int32
abbrev o1 (h0 : Nat) (h1 : Nat) (u : K1) : List Value := [.ref h0, .ref h1, .int u]
abbrev K2 : Type := Int32
abbrev o2 (h0 : Nat) (h1 : Nat) (h2 : Nat) (u : K2) : List Value := [.ref h0, .ref h1, .ref h2, .int u]
abbrev K3 : Type := Int32 × Int32 × Int32 × Int32 × Int32 × Int32
abbrev o3 (h0 : Nat) (u : K3) : List Value := [.ref h0, .int u.1, .int u.2.1, .int u.2.2.1, .int u.2.2.2.1, .int u.2.2.2.2.1, .int u.2.2.2.2.2]
abbrev K4 : Type := Int32 × Int32 × Int32 × Int32 × Int32 × Int32 × Int32 × Int32 × Int32 × Int32 × Int32
abbrev o4 (u : K4) : List Value := [.int u.1, .int u.2.1, .int u.2.2.1, .int u.2.2.2.1, .int u.2.2.2.2.1, .int u.2.2.2.2.2.1, .int u.2.2.2.2.2.2.1, .int u.2.2.2.2.2.2.2.1, .int u.2.2.2.2.2.2.2.2.1, .int u.2.2.2.2.2.2.2.2.2.1, .int u.2.2.2.2.2.2.2.2.2.2]
abbrev K5 : Type := Int32
abbrev o5 (h0 : Nat) (h1 : Nat) (u : K5) : List Value := [.ref h0, .ref h1, .int u]
abbrev K6 : Type := Int64
abbrev o6 (x : Nat → Nat) (u : K6) : List Value := [.ref (x 1), .ref (x 3), .ref (x 4), .ref (x 5), .ref (x 8), .ref (x 9), .ref (x 13), .ref (x 14), .ref (x 15), .ref (x 18), .long u, .ref (x 21), .ref (x 22), .ref (x 23), .ref (x 24), .ref (x 25)]
abbrev K7 : Type := Int64 × Int32 × Int32 × Int32 × Int32 × Int32 × Int32 × Int32 × Int32 × Int32 × Int32 × Int32
abbrev o7 (x : Nat → Nat) (u : K7) : List Value := [.long u.1, .ref (x 1), .int u.2.1, .ref (x 2), .int u.2.2.1, .int u.2.2.2.1, .int u.2.2.2.2.1, .int u.2.2.2.2.2.1, .int u.2.2.2.2.2.2.1, .ref (x 3), .ref (x 4), .ref (x 5), .ref (x 6), .int u.2.2.2.2.2.2.2.1, .ref (x 7), .ref (x 8), .ref (x 9), .ref (x 10), .ref (x 11), .int u.2.2.2.2.2.2.2.2.1, .int u.2.2.2.2.2.2.2.2.2.1, .ref (x 12), .ref (x 13), .ref (x 14), .int u.2.2.2.2.2.2.2.2.2.2.1, .ref (x 15), .ref (x 16), .int u.2.2.2.2.2.2.2.2.2.2.2, .ref (x 17), .ref (x 18)]
def xim (x : Nat → Nat) : Nat → Option Nat := fun j => if j = 0 then some (x 6) else if j = 1 then some (x 7) else none
