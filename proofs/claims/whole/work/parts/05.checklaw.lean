set_option maxRecDepth 100000 in
theorem z_cl_0 : ∀ t, t < 100 → z_okE 189 (0 + t) (z_tb 189 (0 + t)) = true := by decide +kernel
set_option maxRecDepth 100000 in
theorem z_cl_1 : ∀ t, t < 100 → z_okE 189 (100 + t) (z_tb 189 (100 + t)) = true := by decide +kernel
set_option maxRecDepth 100000 in
theorem z_cl_2 : ∀ t, t < 100 → z_okE 189 (200 + t) (z_tb 189 (200 + t)) = true := by decide +kernel
set_option maxRecDepth 100000 in
theorem z_cl_3 : ∀ t, t < 100 → z_okE 189 (300 + t) (z_tb 189 (300 + t)) = true := by decide +kernel
set_option maxRecDepth 100000 in
theorem z_cl_4 : ∀ t, t < 100 → z_okE 189 (400 + t) (z_tb 189 (400 + t)) = true := by decide +kernel
set_option maxRecDepth 100000 in
theorem z_cl_5 : ∀ t, t < 100 → z_okE 189 (500 + t) (z_tb 189 (500 + t)) = true := by decide +kernel
set_option maxRecDepth 100000 in
theorem z_cl_6 : ∀ t, t < 100 → z_okE 189 (600 + t) (z_tb 189 (600 + t)) = true := by decide +kernel
set_option maxRecDepth 100000 in
theorem z_cl_7 : ∀ t, t < 100 → z_okE 189 (700 + t) (z_tb 189 (700 + t)) = true := by decide +kernel
set_option maxRecDepth 100000 in
theorem z_cl_8 : ∀ t, t < 100 → z_okE 189 (800 + t) (z_tb 189 (800 + t)) = true := by decide +kernel
set_option maxRecDepth 100000 in
theorem z_cl_9 : ∀ t, t < 100 → z_okE 189 (900 + t) (z_tb 189 (900 + t)) = true := by decide +kernel
set_option maxRecDepth 100000 in
theorem z_cl_10 : ∀ t, t < 100 → z_okE 189 (1000 + t) (z_tb 189 (1000 + t)) = true := by decide +kernel
set_option maxRecDepth 100000 in
theorem z_cl_11 : ∀ t, t < 100 → z_okE 189 (1100 + t) (z_tb 189 (1100 + t)) = true := by decide +kernel
set_option maxRecDepth 100000 in
theorem z_cl_12 : ∀ t, t < 100 → z_okE 189 (1200 + t) (z_tb 189 (1200 + t)) = true := by decide +kernel
