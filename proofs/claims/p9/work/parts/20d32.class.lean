/-! ===== the class parses settings ===== -/
noncomputable def sHi (a : Int) : Int := if a = 10 then 9999 else 99
noncomputable def k0pg_W : List Nat := [33, 34, 36, 37, 44, 20, 21, 22]
section Sk0pg
variable {Ls : Nat} {xs : Nat → Int32} (X1 X2 : List jm_c) (F0 : Nat → sy_d) (r0 : sE ⊕ sT) (fr bu : Nat) (nm : List Int64)
end Sk0pg
noncomputable def k3pg_W : List Nat := [33, 34, 36, 37, 44, 5, 6, 7]
section Sk3pg
variable {Ls : Nat} {xs : Nat → Int32} (X1 X2 : List jm_c) (F0 : Nat → sy_d) (r0 : sE ⊕ sT) (fr bu : Nat) (nm : List Int64)
end Sk3pg
