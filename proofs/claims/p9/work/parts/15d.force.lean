/-! ===== numbers and rows that are worked out before they are handed on ===== -/
noncomputable def fz_n {β : Type} (n : Nat) (k : Nat → β) : β := Nat.rec (motive := fun _ => β) (k 0) (fun m _ => k (Nat.succ m)) n
theorem fz_n_eq {β : Type} (n : Nat) (k : Nat → β) : fz_n n k = k n := by cases n <;> rfl
noncomputable def fz_i {β : Type} (x : Int) (k : Int → β) : β := match x with
  | .ofNat n => fz_n n fun m => k (.ofNat m)
  | .negSucc n => fz_n n fun m => k (.negSucc m)
theorem fz_i_eq {β : Type} (x : Int) (k : Int → β) : fz_i x k = k x := by
  unfold fz_i
  split <;> rw [fz_n_eq]
noncomputable def fz_s {α β : Type} (l : List α) : (List α → β) → β := List.rec (motive := fun _ => (List α → β) → β) (fun k => k []) (fun a _ ih k => ih fun r => k (a :: r)) l
theorem fz_s_eq {α β : Type} : ∀ (l : List α) (k : List α → β), fz_s l k = k l
  | [], _ => rfl
  | a :: r, k => fz_s_eq r (fun r => k (a :: r))
noncomputable def fz_v {β : Type} (x : sy_v) (k : sy_v → β) : β := match x with
  | .inl v => k (.inl v)
  | .inr (.inl n) => fz_n n fun m => k (.inr (.inl m))
  | .inr (.inr n) => fz_n n fun m => k (.inr (.inr m))
theorem fz_v_eq {β : Type} (x : sy_v) (k : sy_v → β) : fz_v x k = k x := by
  unfold fz_v
  split
  · rfl
  · rw [fz_n_eq]
  · rw [fz_n_eq]
/-- the top of a stack, and its row -/
noncomputable def fz_k {β : Type} (S : List sy_v) (k : List sy_v → β) : β := match S with
  | [] => k []
  | x :: r => fz_v x fun y => fz_s r fun t => k (y :: t)
theorem fz_k_eq {β : Type} (S : List sy_v) (k : List sy_v → β) : fz_k S k = k S := by
  unfold fz_k
  split
  · rfl
  · rw [fz_v_eq, fz_s_eq]
noncomputable def fz_o {β : Type} (x : Option sy_v) (k : Option sy_v → β) : β := match x with
  | none => k none
  | some v => fz_v v fun w => k (some w)
theorem fz_o_eq {β : Type} (x : Option sy_v) (k : Option sy_v → β) : fz_o x k = k x := by
  unfold fz_o
  split
  · rfl
  · rw [fz_v_eq]
noncomputable def fz_L {β : Type} (l : List (Option sy_v)) : (List (Option sy_v) → β) → β := List.rec (motive := fun _ => (List (Option sy_v) → β) → β) (fun k => k []) (fun a _ ih k => fz_o a fun b => ih fun r => k (b :: r)) l
theorem fz_L_eq {β : Type} : ∀ (l : List (Option sy_v)) (k : List (Option sy_v) → β), fz_L l k = k l
  | [], _ => rfl
  | a :: r, k => by
    show fz_o a (fun b => fz_L r fun r => k (b :: r)) = _
    rw [fz_o_eq, fz_L_eq r]
noncomputable def fz_g {β : Type} (g : sy_g) (k : sy_g → β) : β := match g with
  | .inl l => fz_s l fun r => k (.inl r)
  | .inr u => k (.inr u)
theorem fz_g_eq {β : Type} (g : sy_g) (k : sy_g → β) : fz_g g k = k g := by
  unfold fz_g
  split
  · rw [fz_s_eq]
  · rfl
noncomputable def fz_h {β : Type} (h : sy_h) (k : sy_h → β) : β := fz_g h.1 fun a => fz_g h.2 fun b => k (a, b)
theorem fz_h_eq {β : Type} (h : sy_h) (k : sy_h → β) : fz_h h k = k h := by
  unfold fz_h
  rw [fz_g_eq, fz_g_eq]
/-- which instructions write a local in place, which write cells -/
noncomputable def fz_w (i : Instr) : Nat := match i with
  | .iinc _ _ => 1
  | .putfield _ => 2
  | .iastore => 2
  | .bastore => 2
  | .lastore => 2
  | .invokestatic _ => 2
  | _ => 0
noncomputable def fz_x {β : Type} (x : sy_x) (k : sy_x → β) : β := fz_s x.1 fun T => fz_s x.2.1 fun P => k (T, P, x.2.2)
theorem fz_x_eq {β : Type} (x : sy_x) (k : sy_x → β) : fz_x x k = k x := by
  unfold fz_x
  rw [fz_s_eq, fz_s_eq]
/-- a state, worked out -/
noncomputable def fz_st {β : Type} (w pc : Nat) (L : List (Option sy_v)) (S : List sy_v) (G : sy_h) (x : sy_x) (k : Nat → List (Option sy_v) → List sy_v → sy_h → sy_x → β) : β :=
  fz_n pc fun pc => fz_k S fun S => fz_x x fun x => bif Nat.beq w 25 then fz_L L fun L => k pc L S G x else bif Nat.beq w 14 || Nat.beq w 15 || Nat.beq w 8 then fz_h G fun G => k pc L S G x else fz_s L fun L => k pc L S G x
theorem fz_st_eq {β : Type} (w pc : Nat) (L : List (Option sy_v)) (S : List sy_v) (G : sy_h) (x : sy_x) (k : Nat → List (Option sy_v) → List sy_v → sy_h → sy_x → β) : fz_st w pc L S G x k = k pc L S G x := by
  unfold fz_st
  rw [fz_n_eq, fz_k_eq, fz_x_eq, fz_L_eq, fz_h_eq, fz_s_eq]
  cases Nat.beq w 25 <;> cases (Nat.beq w 14 || Nat.beq w 15 || Nat.beq w 8) <;> rfl
noncomputable def fz_t {β : Type} (t : Nat × Int × Int) (k : Nat × Int × Int → β) : β := fz_n t.1 fun c => fz_i t.2.1 fun a => fz_i t.2.2 fun b => k (c, a, b)
theorem fz_t_eq {β : Type} (t : Nat × Int × Int) (k : Nat × Int × Int → β) : fz_t t k = k t := by
  unfold fz_t
  rw [fz_n_eq, fz_i_eq, fz_i_eq]
/-- a row of bounds, all worked out -/
noncomputable def fz_E {β : Type} (l : List (Nat × Int × Int)) : (List (Nat × Int × Int) → β) → β := List.rec (motive := fun _ => (List (Nat × Int × Int) → β) → β) (fun k => k []) (fun a _ ih k => fz_t a fun b => ih fun r => k (b :: r)) l
theorem fz_E_eq {β : Type} : ∀ (l : List (Nat × Int × Int)) (k : List (Nat × Int × Int) → β), fz_E l k = k l
  | [], _ => rfl
  | a :: r, k => by
    show fz_t a (fun b => fz_E r fun r => k (b :: r)) = _
    rw [fz_t_eq, fz_E_eq r]
/-- the k-th one -/
noncomputable def fz_at {α : Type} (l : List α) : Nat → Option α := List.rec (motive := fun _ => Nat → Option α) (fun _ => none) (fun a _ ih n => Nat.rec (motive := fun _ => Option α) (some a) (fun m _ => ih m) n) l
theorem fz_at_eq {α : Type} : ∀ (l : List α) (n : Nat), fz_at l n = l[n]?
  | [], n => by simp [fz_at]
  | a :: r, 0 => rfl
  | a :: r, n + 1 => by
    show fz_at r n = _
    rw [fz_at_eq r n]
    simp
/-- the k-th one, another in its place -/
noncomputable def fz_set {α : Type} (l : List α) : Nat → α → List α := List.rec (motive := fun _ => Nat → α → List α) (fun _ _ => []) (fun a r ih n x => Nat.rec (motive := fun _ => List α) (x :: r) (fun m _ => a :: ih m x) n) l
theorem fz_set_eq {α : Type} : ∀ (l : List α) (n : Nat) (x : α), fz_set l n x = l.set n x
  | [], n, x => by simp [fz_set]
  | a :: r, 0, x => rfl
  | a :: r, n + 1, x => by
    show a :: fz_set r n x = _
    rw [fz_set_eq r n x]
    rfl
/-- a bound is at most another -/
noncomputable def iv_le (a b : Int) : Bool := match a, b with
  | .ofNat m, .ofNat n => Nat.ble m n
  | .negSucc _, .ofNat _ => true
  | .ofNat _, .negSucc _ => false
  | .negSucc m, .negSucc n => Nat.ble n m
theorem iv_le_iff (a b : Int) : iv_le a b = true ↔ a ≤ b := by
  unfold iv_le
  split
  · rename_i m n
    rw [Nat.ble_eq]
    exact (Int.ofNat_le).symm
  · rename_i m n
    have : (0 : Int) ≤ Int.ofNat n := Int.natCast_nonneg n
    exact ⟨fun _ => by omega, fun _ => rfl⟩
  · rename_i m n
    have : (0 : Int) ≤ Int.ofNat m := Int.natCast_nonneg m
    constructor
    · intro h; cases h
    · intro h; omega
  · rename_i m n
    rw [Nat.ble_eq]
    omega
theorem iv_le_of {a b : Int} (h : iv_le a b = true) : a ≤ b := (iv_le_iff a b).mp h
theorem iv_nle_of {a b : Int} (h : iv_le a b = false) : b < a := by
  have : ¬ a ≤ b := fun q => by rw [(iv_le_iff a b).mpr q] at h; cases h
  omega
