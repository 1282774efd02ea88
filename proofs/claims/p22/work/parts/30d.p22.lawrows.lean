set_option maxRecDepth 100000 in
theorem da_law_12 : ∀ q ∈ ([(848, .iaload, 1), (849, .invokevirtual 103, 3), (852, .if_icmp .eq 5, 3), (855, .iconst 0, 1), (856, .ireturn, 1), (857, .iinc 3 6, 3), (860, .goto (-842), 3), (863, .iconst 1, 1), (864, .ireturn, 1)] : List (Nat × Instr × Nat)), decode cL_law q.1 = .ok q.2 := by decide +kernel
theorem dL_law_848 : decode cL_law 848 = .ok (.iaload, 1) := da_law_12 (848, .iaload, 1) (List.mem_of_getElem? (i := 0) rfl)
theorem dL_law_849 : decode cL_law 849 = .ok (.invokevirtual 103, 3) := da_law_12 (849, .invokevirtual 103, 3) (List.mem_of_getElem? (i := 1) rfl)
theorem dL_law_852 : decode cL_law 852 = .ok (.if_icmp .eq 5, 3) := da_law_12 (852, .if_icmp .eq 5, 3) (List.mem_of_getElem? (i := 2) rfl)
theorem dL_law_855 : decode cL_law 855 = .ok (.iconst 0, 1) := da_law_12 (855, .iconst 0, 1) (List.mem_of_getElem? (i := 3) rfl)
theorem dL_law_856 : decode cL_law 856 = .ok (.ireturn, 1) := da_law_12 (856, .ireturn, 1) (List.mem_of_getElem? (i := 4) rfl)
theorem dL_law_857 : decode cL_law 857 = .ok (.iinc 3 6, 3) := da_law_12 (857, .iinc 3 6, 3) (List.mem_of_getElem? (i := 5) rfl)
theorem dL_law_860 : decode cL_law 860 = .ok (.goto (-842), 3) := da_law_12 (860, .goto (-842), 3) (List.mem_of_getElem? (i := 6) rfl)
theorem dL_law_863 : decode cL_law 863 = .ok (.iconst 1, 1) := da_law_12 (863, .iconst 1, 1) (List.mem_of_getElem? (i := 7) rfl)
theorem dL_law_864 : decode cL_law 864 = .ok (.ireturn, 1) := da_law_12 (864, .ireturn, 1) (List.mem_of_getElem? (i := 8) rfl)
