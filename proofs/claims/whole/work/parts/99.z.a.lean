/-! the law's start -/
theorem rng {α : Type} {f g : Nat → α} {N : Nat} (h : (List.range N).map f = (List.range N).map g) : ∀ j, j < N → f j = g j := by
  intro j hj
  have h1 := congrArg (fun l => l[j]?) h
  simpa [hj] using h1
theorem st_cls {s : State} {args : Array Value} (hts : ∀ w ∈ gt, w.before args s = true) (hi : ∀ q ∈ vwCl, ∃ n, Cond.instantiable q.1 n ∈ gt) : ∃ G : va_G, ∀ (k : Nat) (q : vw_C), vwCl[k]? = some q → u_Kn s q.1 q.2.1 q.2.2 (G.1 k) (G.2 k) := by
  have h : ∀ k : Nat, ∃ z : ClassId × (Nat → Nat), ∀ q : vw_C, vwCl[k]? = some q → u_Kn s q.1 q.2.1 q.2.2 z.1 z.2 := by
    intro k
    cases hq : vwCl[k]? with
    | none => exact ⟨(0, fun _ => 0), fun q h => by cases h⟩
    | some q =>
      have hm : q ∈ vwCl := List.mem_of_getElem? hq
      obtain ⟨n, hn⟩ := hi q hm
      obtain ⟨cC, iS, hKn⟩ := u_known (C := q.1) (T := q.2.1) (N := q.2.2) (n := n) hts (vw_ok q hm).1 (hts _ hn)
      exact ⟨(cC, iS), fun q' h => by cases h; exact hKn⟩
  refine ⟨(fun k => (Classical.choose (h k)).1, fun k => (Classical.choose (h k)).2), fun k q hq => ?_⟩
  exact Classical.choose_spec (h k) q hq
theorem wsub_get {ad : Nat → Nat} {dA : Nat → ClassId} {cs : List Nat} {i k : Nat} (h : cs[i]? = some k) : (wsub ad dA cs)[i]? = some (ad k, ent ad dA Iz Dz k (shp k)) := by
  unfold wsub
  rw [List.getElem?_map, h]
  rfl
theorem wsub_wld {ad : Nat → Nat} {dA : Nat → ClassId} {G : va_G} {A : Nat → Prop} {H : Heap} {cs : List Nat} (hc : (List.range SHc.length).all (fun k => cs.contains k) = true) (hP : va_P G vwCl (wsub ad dA cs) H) (hD : va_D A (wsub ad dA cs)) : va_P G vwCl (wld ad dA Iz Dz 0 SHc) H ∧ AdOk ad A SHc.length := by
  have hat : ∀ k, k < SHc.length → ∃ i : Nat, cs[i]? = some k := by
    intro k hk
    have h1 := List.all_eq_true.mp hc k (List.mem_range.mpr hk)
    exact List.mem_iff_getElem?.mp (List.contains_iff_mem.mp h1)
  refine ⟨fun k q hq => ?_, fun i j hi hj hij => ?_, fun i hi => ?_⟩
  · have hl : k < (wld ad dA Iz Dz 0 SHc).length := (List.getElem?_eq_some_iff.mp hq).1
    rw [wld_len] at hl
    obtain ⟨i, h1⟩ := hat k hl
    have h2 := wsub_get (ad := ad) (dA := dA) h1
    have h3 : SHc[k]? = some (shp k) := by
      unfold shp
      rw [nth_eq, List.getElem?_eq_getElem hl]
    rw [wld_get, h3] at hq
    simp only [Option.map_some, Option.some.injEq, Nat.zero_add] at hq
    rw [← hq]
    exact hP i _ h2
  · obtain ⟨a, h1⟩ := hat i hi
    obtain ⟨b, h2⟩ := hat j hj
    have h3 := hD.1 a b _ _ (wsub_get (ad := ad) (dA := dA) h1) (wsub_get (ad := ad) (dA := dA) h2) hij
    subst h3
    rw [h1] at h2
    exact Option.some.inj h2
  · obtain ⟨a, h1⟩ := hat i hi
    exact hD.2 a _ (wsub_get (ad := ad) (dA := dA) h1)
