theorem c_X_isWithin (g : Gp) (d : Nat) (v a b : Int32) (I : MI) (D : MD) : Con g SHc d 4 [.int v, .int a, .int b] I D (EqP (some (.int (bI (wi v a b)))) I D) := by
  refine Con.mk (LV := v_X_isWithin) k_X_isWithin (Nat.le_of_ble_eq_true rfl) (fun K hK => hK _ List.mem_cons_self _ _ _ _ ?_)
  refine br_c (fun c1 => ?_) (fun c1 => ?_)
  · refine And.intro ?_ (And.intro ?_ (And.intro rfl rfl))
    · simp
    · simp [wi, bI, i32_nle.mpr c1]
  refine br_c (fun c2 => ?_) (fun c2 => ?_)
  · refine And.intro ?_ (And.intro ?_ (And.intro rfl rfl))
    · simp
    · simp [wi, bI, i32_nle.mpr c2]
  · refine And.intro ?_ (And.intro ?_ (And.intro rfl rfl))
    · simp
    · simp [wi, bI, i32_nlt.mp c1, i32_nlt.mp c2]
