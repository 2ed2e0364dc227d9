theorem am_h166 : (am_hn 166).2.2.2 = 1275 := by decide +kernel
theorem am_t166 : am_mt 166 = am_m166 := rfl
set_option maxRecDepth 100000 in
theorem am_l166 : lw_tbl[1275]? = some (.code am_m166.2.1 am_m166.2.2.1 am_m166.2.2.2.1 am_m166.2.2.2.2.1) := rfl
theorem am_mp12 : (List.range' 166 1).all am_mpB = true := by
  have e : am_w (am_hn 166).2.2.2 (.code (am_mt 166).2.1 (am_mt 166).2.2.1 (am_mt 166).2.2.2.1 (am_mt 166).2.2.2.2.1) = true := by
    rw [am_h166, am_t166]; exact decide_eq_true am_l166
  have f : (am_w (am_hn 166).2.2.1 (.initialized (am_mt 166).2.1.cls) && am_pl (am_mt 166).2.1 && decide ((am_mt 166).2.1.cls = am_on (am_mt 166).1) && plainFor (am_mt 166).2.1 && decide ((am_mt 166).2.2.2.1 ≤ 80)) = true := by decide +kernel
  simp only [Bool.and_eq_true] at f
  have g : am_mpB 166 = true := by
    unfold am_mpB am_okM
    simp only [Bool.and_eq_true]
    exact ⟨⟨⟨⟨⟨e, f.1.1.1.1⟩, f.1.1.1.2⟩, f.1.1.2⟩, f.1.2⟩, f.2⟩
  show (am_mpB 166 && List.all [] am_mpB) = true
  rw [g]; rfl
