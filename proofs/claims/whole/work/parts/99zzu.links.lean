/-! ===== links of the report ===== -/
section LKR
theorem ml_Sb_50 : ZLk "java/lang/StringBuilder" 50 Y_As_append_0 1 := ⟨yk_As_append_0, (tm5 72 rfl rfl), (tm5 73 rfl rfl), (tm9 148 rfl rfl), (tm2 138 rfl rfl), by decide⟩
theorem ml_Sb_53 : ZLk "java/lang/StringBuilder" 53 Y_As_append_1 1 := ⟨yk_As_append_1, (tm5 107 rfl rfl), (tm5 108 rfl rfl), (tm9 150 rfl rfl), (tm2 138 rfl rfl), by decide⟩
theorem ml_Sb_333 : ZLk "java/lang/StringBuilder" 333 Y_As_setLength 1 := ⟨yk_As_setLength, (tm5 18 rfl rfl), (tm5 19 rfl rfl), (tm9 145 rfl rfl), (tm2 138 rfl rfl), by decide⟩
end LKR
