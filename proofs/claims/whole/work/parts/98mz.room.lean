theorem am_MP : am_MPROP := by
  intro M hM
  have h : am_mpB M = true := by
    by_cases h0 : M < 15
    · exact List.all_eq_true.mp am_mp0 M (List.mem_range'_1.mpr ⟨by omega, by omega⟩)
    by_cases h1 : M < 30
    · exact List.all_eq_true.mp am_mp1 M (List.mem_range'_1.mpr ⟨by omega, by omega⟩)
    by_cases h2 : M < 45
    · exact List.all_eq_true.mp am_mp2 M (List.mem_range'_1.mpr ⟨by omega, by omega⟩)
    by_cases h3 : M < 60
    · exact List.all_eq_true.mp am_mp3 M (List.mem_range'_1.mpr ⟨by omega, by omega⟩)
    by_cases h4 : M < 75
    · exact List.all_eq_true.mp am_mp4 M (List.mem_range'_1.mpr ⟨by omega, by omega⟩)
    by_cases h5 : M < 90
    · exact List.all_eq_true.mp am_mp5 M (List.mem_range'_1.mpr ⟨by omega, by omega⟩)
    by_cases h6 : M < 105
    · exact List.all_eq_true.mp am_mp6 M (List.mem_range'_1.mpr ⟨by omega, by omega⟩)
    by_cases h7 : M < 120
    · exact List.all_eq_true.mp am_mp7 M (List.mem_range'_1.mpr ⟨by omega, by omega⟩)
    by_cases h8 : M < 135
    · exact List.all_eq_true.mp am_mp8 M (List.mem_range'_1.mpr ⟨by omega, by omega⟩)
    by_cases h9 : M < 150
    · exact List.all_eq_true.mp am_mp9 M (List.mem_range'_1.mpr ⟨by omega, by omega⟩)
    by_cases h10 : M < 165
    · exact List.all_eq_true.mp am_mp10 M (List.mem_range'_1.mpr ⟨by omega, by omega⟩)
    by_cases h11 : M < 166
    · exact List.all_eq_true.mp am_mp11 M (List.mem_range'_1.mpr ⟨by omega, by omega⟩)
    by_cases h12 : M < 167
    · exact List.all_eq_true.mp am_mp12 M (List.mem_range'_1.mpr ⟨by omega, by omega⟩)
    by_cases h13 : M < 180
    · exact List.all_eq_true.mp am_mp13 M (List.mem_range'_1.mpr ⟨by omega, by omega⟩)
    by_cases h14 : M < 195
    · exact List.all_eq_true.mp am_mp14 M (List.mem_range'_1.mpr ⟨by omega, by omega⟩)
    by_cases h15 : M < 210
    · exact List.all_eq_true.mp am_mp15 M (List.mem_range'_1.mpr ⟨by omega, by omega⟩)
    by_cases h16 : M < 225
    · exact List.all_eq_true.mp am_mp16 M (List.mem_range'_1.mpr ⟨by omega, by omega⟩)
    by_cases h17 : M < 240
    · exact List.all_eq_true.mp am_mp17 M (List.mem_range'_1.mpr ⟨by omega, by omega⟩)
    by_cases h18 : M < 255
    · exact List.all_eq_true.mp am_mp18 M (List.mem_range'_1.mpr ⟨by omega, by omega⟩)
    by_cases h19 : M < 267
    · exact List.all_eq_true.mp am_mp19 M (List.mem_range'_1.mpr ⟨by omega, by omega⟩)
    omega
  unfold am_mpB at h
  simp only [Bool.and_eq_true, decide_eq_true_eq] at h
  exact ⟨h.1.1, h.1.2, h.2⟩
