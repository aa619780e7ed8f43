/-! MATHEMATICS 9, second half -/
theorem pg_8_990 : pgA 8 990 93 = true := by decide +kernel
theorem pg_8_1083 : pgA 8 1083 65 = true := by decide +kernel
theorem pg_8_1148 : pgA 8 1148 44 = true := by decide +kernel
theorem pg_8_1192 : pgA 8 1192 55 = true := by decide +kernel
theorem pg_8_1247 : pgA 8 1247 65 = true := by decide +kernel
theorem pg_8_1312 : pgA 8 1312 31 = true := by decide +kernel
theorem pg_8_1343 : pgA 8 1343 45 = true := by decide +kernel
theorem pg_8_1388 : pgA 8 1388 22 = true := by decide +kernel
theorem pg_8_1410 : pgA 8 1410 17 = true := by decide +kernel
theorem pg_8_1427 : pgA 8 1427 3 = true := by decide +kernel
