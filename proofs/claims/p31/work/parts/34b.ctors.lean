/-! ===== the two constructors' ends ===== -/
theorem jm_K2 {Ls : Nat} {xs : Nat → Int32} : jm_T Ls xs 20 jm_M132 [.ref 1000] (jm_H1, [.inr (10, jm_df 10)]) 46 20000 (fun v G => v = none ∧ G = (jm_H1, jm_H2)) := jm_ev0_T (BG := jm_BG) (n := 20000) (d := 19) jm_ok132 (by decide) (by decide +kernel)
theorem jm_K1 {Ls : Nat} {xs : Nat → Int32} : jm_T Ls xs 20 jm_M80 [.ref 8] ([.inr (9, jm_df 9)], []) 64 7204 (fun v G => v = none ∧ G = (jm_H1, [])) := jm_ev0_T (BG := jm_BG) (n := 20000) (d := 19) jm_ok80 (by decide) (by decide +kernel)
