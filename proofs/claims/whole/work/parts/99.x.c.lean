/-! the constructor of the reference -/
theorem pt_M_169 : PtF 12 69 169 (.array .int) := ⟨by decide, by decide, ⟨0, 0, (List.mem_filter.mp (gt_in (t := 6) (o := 21) rfl rfl)).1⟩, rfl, by decide +kernel⟩
theorem pt_M_172 : PtF 12 70 172 (.array .int) := ⟨by decide, by decide, ⟨0, 0, (List.mem_filter.mp (gt_in (t := 6) (o := 22) rfl rfl)).1⟩, rfl, by decide +kernel⟩
theorem pt_M_175 : PtF 12 71 175 .int := ⟨by decide, by decide, ⟨0, 0, (List.mem_filter.mp (gt_in (t := 6) (o := 23) rfl rfl)).1⟩, rfl, by decide +kernel⟩
theorem pt_M_179 : PtF 12 72 179 .int := ⟨by decide, by decide, ⟨0, 0, (List.mem_filter.mp (gt_in (t := 6) (o := 24) rfl rfl)).1⟩, rfl, by decide +kernel⟩
theorem pt_M_182 : PtF 12 74 182 (.array .int) := ⟨by decide, by decide, ⟨0, 0, (List.mem_filter.mp (gt_in (t := 6) (o := 26) rfl rfl)).1⟩, rfl, by decide +kernel⟩
theorem pt_M_185 : PtF 12 75 185 (.array .int) := ⟨by decide, by decide, ⟨0, 0, (List.mem_filter.mp (gt_in (t := 6) (o := 27) rfl rfl)).1⟩, rfl, by decide +kernel⟩
theorem pt_M_188 : PtF 12 79 188 (.array .int) := ⟨by decide, by decide, ⟨0, 0, (List.mem_filter.mp (gt_in (t := 6) (o := 31) rfl rfl)).1⟩, rfl, by decide +kernel⟩
theorem pt_M_191 : PtF 12 80 191 (.array .int) := ⟨by decide, by decide, ⟨0, 0, (List.mem_filter.mp (gt_in (t := 6) (o := 32) rfl rfl)).1⟩, rfl, by decide +kernel⟩
theorem pt_M_194 : PtF 12 81 194 (.array .int) := ⟨by decide, by decide, ⟨0, 0, (List.mem_filter.mp (gt_in (t := 6) (o := 33) rfl rfl)).1⟩, rfl, by decide +kernel⟩
theorem pt_M_197 : PtF 12 82 197 (.array .boolean) := ⟨by decide, by decide, ⟨0, 0, (List.mem_filter.mp (gt_in (t := 6) (o := 34) rfl rfl)).1⟩, rfl, by decide +kernel⟩
theorem pt_M_200 : PtF 12 83 200 (.array .int) := ⟨by decide, by decide, ⟨0, 0, (List.mem_filter.mp (gt_in (t := 6) (o := 35) rfl rfl)).1⟩, rfl, by decide +kernel⟩
theorem pt_M_203 : PtF 12 84 203 (.array .int) := ⟨by decide, by decide, ⟨0, 0, (List.mem_filter.mp (gt_in (t := 6) (o := 36) rfl rfl)).1⟩, rfl, by decide +kernel⟩
theorem pt_M_206 : PtF 12 85 206 (.array .int) := ⟨by decide, by decide, ⟨0, 0, (List.mem_filter.mp (gt_in (t := 6) (o := 37) rfl rfl)).1⟩, rfl, by decide +kernel⟩
theorem pt_M_209 : PtF 12 86 209 (.array .int) := ⟨by decide, by decide, ⟨0, 0, (List.mem_filter.mp (gt_in (t := 6) (o := 38) rfl rfl)).1⟩, rfl, by decide +kernel⟩
theorem pt_M_212 : PtF 12 90 212 (.array .boolean) := ⟨by decide, by decide, ⟨0, 0, (List.mem_filter.mp (gt_in (t := 6) (o := 42) rfl rfl)).1⟩, rfl, by decide +kernel⟩
