set_option maxRecDepth 100000 in
theorem da_law_12 : ∀ q ∈ ([(848, .iadd, 1), (849, .iaload, 1), (850, .invokevirtual 103, 3), (853, .pop, 1), (854, .goto 3, 3), (857, .iinc 3 6, 3), (860, .goto (-842), 3), (863, .iconst 1, 1), (864, .ireturn, 1)] : List (Nat × Instr × Nat)), decode cL_law q.1 = .ok q.2 := by decide +kernel
theorem dL_law_848 : decode cL_law 848 = .ok (.iadd, 1) := da_law_12 (848, .iadd, 1) (List.mem_of_getElem? (i := 0) rfl)
theorem dL_law_849 : decode cL_law 849 = .ok (.iaload, 1) := da_law_12 (849, .iaload, 1) (List.mem_of_getElem? (i := 1) rfl)
theorem dL_law_850 : decode cL_law 850 = .ok (.invokevirtual 103, 3) := da_law_12 (850, .invokevirtual 103, 3) (List.mem_of_getElem? (i := 2) rfl)
theorem dL_law_853 : decode cL_law 853 = .ok (.pop, 1) := da_law_12 (853, .pop, 1) (List.mem_of_getElem? (i := 3) rfl)
theorem dL_law_854 : decode cL_law 854 = .ok (.goto 3, 3) := da_law_12 (854, .goto 3, 3) (List.mem_of_getElem? (i := 4) rfl)
theorem dL_law_857 : decode cL_law 857 = .ok (.iinc 3 6, 3) := da_law_12 (857, .iinc 3 6, 3) (List.mem_of_getElem? (i := 5) rfl)
theorem dL_law_860 : decode cL_law 860 = .ok (.goto (-842), 3) := da_law_12 (860, .goto (-842), 3) (List.mem_of_getElem? (i := 6) rfl)
theorem dL_law_863 : decode cL_law 863 = .ok (.iconst 1, 1) := da_law_12 (863, .iconst 1, 1) (List.mem_of_getElem? (i := 7) rfl)
theorem dL_law_864 : decode cL_law 864 = .ok (.ireturn, 1) := da_law_12 (864, .ireturn, 1) (List.mem_of_getElem? (i := 8) rfl)
