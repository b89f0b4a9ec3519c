/-! What the law finds at its entry. -/
theorem tw_arr {args : Array Value} {s : State} {ty : FieldType} (h : (Cond.arrayClass ty).before args s = true) : ∃ cA : ClassId, ArrOfT s cA ty ∧ s.vm.findClass ("[" ++ ty.toString) = some cA := by
  obtain ⟨cA, k, comp, h1, h2, h3⟩ := Cond.arrayClass_spec h
  exact ⟨cA, fun N z => ⟨(fun q hq => by cases hq), k, h2, comp, h3⟩, h1⟩
theorem tw_arr2 {args : Array Value} {s : State} (h : (Cond.arrayOver (.array .int)).before args s = true) : ∃ cA : ClassId, ArrOfT s cA (.array .int) ∧ s.vm.findClass ("[" ++ (FieldType.array .int).toString) = some cA := by
  obtain ⟨comp, cA, k, -, -, h2, h3, h1⟩ := Stand.arrayOver_specB h
  exact ⟨cA, fun N z => ⟨(fun q hq => by cases hq), k, h2, comp, h3⟩, h1⟩
theorem tw_str {args : Array Value} {s : State} {own tx : String} {k : Nat} (h1 : (Cond.stringRef own k tx).before args s = true) (h2 : (Cond.exactly (.string own k) "java/lang/String").before args s = true) : ∃ a, vk_R own k tx a s := by
  obtain ⟨a, c, cell, k9, q1, -⟩ := Cond.exactly_spec h2
  exact ⟨a, vk_R.of (A := args) h1 q1⟩
theorem tw_Z_start {args : Array Value} {s : State} (hts : ∀ w ∈ lw_tbl, w.before args s = true) (hs : ∀ w ∈ flatC (Jvm.Cond.and given_1 narrow_1), w.before args s = true) : tw_Z (fun q => s.heap.size ≤ q) s := by
  have hA : ∀ a : Nat, a < s.heap.size → ¬ s.heap.size ≤ a := fun a h => Nat.not_le.mpr h
  have r : s.vm.Alike s.vm := Vm.Alike.refl s.vm
  refine ⟨vx_Zqof (hts _ (by decide +kernel)) (hts _ (by decide +kernel)) (hs _ (by decide +kernel)) hA, vx_Zqof (hts _ (by decide +kernel)) (hts _ (by decide +kernel)) (hs _ (by decide +kernel)) hA,
    ⟨tw_cast (s := s) (a := args) r (hts _ (by decide +kernel)), tw_cast (s := s) (a := args) r (hts _ (by decide +kernel)), tw_decl (s := s) (a := args) r (hts _ (by decide +kernel)), tw_decl (s := s) (a := args) r (hts _ (by decide +kernel)), tw_decl (s := s) (a := args) r (hts _ (by decide +kernel))⟩,
    tw_str (args := args) (hts _ (by decide +kernel)) (hs _ (by decide +kernel)), tw_str (args := args) (hts _ (by decide +kernel)) (hs _ (by decide +kernel)), tw_str (args := args) (hts _ (by decide +kernel)) (hs _ (by decide +kernel)), tw_str (args := args) (hts _ (by decide +kernel)) (hs _ (by decide +kernel)), tw_str (args := args) (hts _ (by decide +kernel)) (hs _ (by decide +kernel))⟩
theorem tw_ov_start {args : Array Value} {s : State} (hts : ∀ w ∈ lw_tbl, w.before args s = true) : (Cond.arrayOver (.array .int)).before args s = true := hts _ (by decide +kernel)
theorem tw_Nc_start {args : Array Value} {s : State} (hs : ∀ w ∈ flatC (Jvm.Cond.and given_1 narrow_1), w.before args s = true) : va_Nc "java/lang/IllegalStateException" "java/lang/IllegalArgumentException" s := va_Nc.of (args := args) (hs _ (by decide +kernel))
