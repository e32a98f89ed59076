theorem x1_0 (d : Nat) (σ : Sig) (a1 : Int32) : Ex d 1 0 [.ref 67, .int a1] [] G0 σ = Ex d 1 1 [.ref 67, .int a1] [.ref 67] G0 σ := (Ex_nxt rfl).trans rfl
theorem x1_1 (d : Nat) (σ : Sig) (a1 : Int32) : Ex d 1 1 [.ref 67, .int a1] [.ref 67] G0 σ = Ex d 1 4 [.ref 67, .int a1] [.ref 73] G0 σ := (Ex_nxt rfl).trans rfl
theorem x1_4 (d : Nat) (σ : Sig) (a1 : Int32) : Ex d 1 4 [.ref 67, .int a1] [.ref 73] G0 σ = Ex d 1 5 [.ref 67, .int a1] [.int (-1), .ref 73] G0 σ := (Ex_nxt rfl).trans rfl
theorem x1_5 (d : Nat) (σ : Sig) (a1 : Int32) : Ex (d + 1) 1 5 [.ref 67, .int a1] [.int (-1), .ref 73] G0 σ = (Ex d 283 0 [.ref 73, .int (-1), .null, .null] [] G0 σ).bind fun o => Ex (d + 1) 1 8 [.ref 67, .int a1] (o.1.toList ++ []) o.2.1 o.2.2 := (Ex_nxt rfl).trans rfl
theorem x1_8 (d : Nat) (σ : Sig) (a1 : Int32) : Ex d 1 8 [.ref 67, .int a1] [] G0 σ = Ex d 1 9 [.ref 67, .int a1] [.ref 67] G0 σ := (Ex_nxt rfl).trans rfl
theorem x1_9 (d : Nat) (σ : Sig) (a1 : Int32) : Ex d 1 9 [.ref 67, .int a1] [.ref 67] G0 σ = Ex d 1 10 [.ref 67, .int a1] [.int 1, .ref 67] G0 σ := (Ex_nxt rfl).trans rfl
theorem x1_10 (d : Nat) (σ : Sig) (a1 : Int32) : Ex d 1 10 [.ref 67, .int a1] [.int 1, .ref 67] G0 σ = Ex d 1 13 [.ref 67, .int a1] [] G0 (sup σ 67 (upd (σ 67) 8 1)) := (Ex_nxt rfl).trans rfl
theorem x1_13 (d : Nat) (σ : Sig) (a1 : Int32) : Ex d 1 13 [.ref 67, .int a1] [] G0 σ = Ex d 1 14 [.ref 67, .int a1] [.ref 67] G0 σ := (Ex_nxt rfl).trans rfl
theorem x1_14 (d : Nat) (σ : Sig) (a1 : Int32) : Ex d 1 14 [.ref 67, .int a1] [.ref 67] G0 σ = Ex d 1 15 [.ref 67, .int a1] [.int a1, .ref 67] G0 σ := (Ex_nxt rfl).trans rfl
theorem x1_15 (d : Nat) (σ : Sig) (a1 : Int32) (s0 : Int32) : Ex d 1 15 [.ref 67, .int a1] [.int s0, .ref 67] G0 σ = if s0 = 0 ∨ s0 = 1 then Ex d 1 18 [.ref 67, .int a1] [] G0 (sup σ 67 (upd (σ 67) 9 s0)) else none := (Ex_nxt rfl).trans nxt_bool
theorem x1_18 (d : Nat) (σ : Sig) (a1 : Int32) : Ex d 1 18 [.ref 67, .int a1] [] G0 σ = some (none, G0, σ) := (Ex_nxt rfl).trans rfl
theorem x2_0 (d : Nat) (σ : Sig)  : Ex d 2 0 [.ref 67] [] G0 σ = Ex d 2 1 [.ref 67] [.ref 67] G0 σ := (Ex_nxt rfl).trans rfl
theorem x2_1 (d : Nat) (σ : Sig)  : Ex d 2 1 [.ref 67] [.ref 67] G0 σ = Ex d 2 2 [.ref 67] [.int 0, .ref 67] G0 σ := (Ex_nxt rfl).trans rfl
theorem x2_2 (d : Nat) (σ : Sig)  : Ex d 2 2 [.ref 67] [.int 0, .ref 67] G0 σ = Ex d 2 5 [.ref 67] [] G0 (sup σ 67 (upd (σ 67) 8 0)) := (Ex_nxt rfl).trans rfl
theorem x2_5 (d : Nat) (σ : Sig)  : Ex d 2 5 [.ref 67] [] G0 σ = some (none, G0, σ) := (Ex_nxt rfl).trans rfl
