/-! a name of a text that isn't here -/
noncomputable def cf_5_1 : ai_C := .inr (.inr (5, [some 1, some 2, some 3, some 4, some 5]))
