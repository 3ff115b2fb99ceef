/-! ===== the reference reads a text: small methods ===== -/
noncomputable def W1 : List Nat := [4, 6, 7, 8, 9]
section SM
variable {Ls : Nat} {xs : Nat → Int32} (F : Nat → sy_d) (X1 X2 : List jm_c)
noncomputable def W2 : List Nat := [4, 6, 7, 8, 9, 13, 30]
end SM
