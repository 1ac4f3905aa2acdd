/-! ===== an int's number beside a number that is written (by a program) ===== -/
theorem kI0 : (0 : Int32) = jI 0 := rfl
theorem jq0 {z : Int} (h : rI z) : (jI z = 0) = (z = 0) := by rw [kI0]; exact jIeq h ⟨by decide, by decide⟩
theorem jl0 {z : Int} (h : rI z) : (jI z < 0) = (z < 0) := by rw [kI0]; exact jIlt h ⟨by decide, by decide⟩
theorem je0 {z : Int} (h : rI z) : (jI z ≤ 0) = (z ≤ 0) := by rw [kI0]; exact jIle h ⟨by decide, by decide⟩
theorem jg0 {z : Int} (h : rI z) : (0 < jI z) = (0 < z) := by rw [kI0]; exact jIlt ⟨by decide, by decide⟩ h
theorem jh0 {z : Int} (h : rI z) : (0 ≤ jI z) = (0 ≤ z) := by rw [kI0]; exact jIle ⟨by decide, by decide⟩ h
theorem kI1 : (1 : Int32) = jI 1 := rfl
theorem jq1 {z : Int} (h : rI z) : (jI z = 1) = (z = 1) := by rw [kI1]; exact jIeq h ⟨by decide, by decide⟩
theorem jl1 {z : Int} (h : rI z) : (jI z < 1) = (z < 1) := by rw [kI1]; exact jIlt h ⟨by decide, by decide⟩
theorem je1 {z : Int} (h : rI z) : (jI z ≤ 1) = (z ≤ 1) := by rw [kI1]; exact jIle h ⟨by decide, by decide⟩
theorem jg1 {z : Int} (h : rI z) : (1 < jI z) = (1 < z) := by rw [kI1]; exact jIlt ⟨by decide, by decide⟩ h
theorem jh1 {z : Int} (h : rI z) : (1 ≤ jI z) = (1 ≤ z) := by rw [kI1]; exact jIle ⟨by decide, by decide⟩ h
theorem kI2 : (2 : Int32) = jI 2 := rfl
theorem jq2 {z : Int} (h : rI z) : (jI z = 2) = (z = 2) := by rw [kI2]; exact jIeq h ⟨by decide, by decide⟩
theorem jl2 {z : Int} (h : rI z) : (jI z < 2) = (z < 2) := by rw [kI2]; exact jIlt h ⟨by decide, by decide⟩
theorem je2 {z : Int} (h : rI z) : (jI z ≤ 2) = (z ≤ 2) := by rw [kI2]; exact jIle h ⟨by decide, by decide⟩
theorem jg2 {z : Int} (h : rI z) : (2 < jI z) = (2 < z) := by rw [kI2]; exact jIlt ⟨by decide, by decide⟩ h
theorem jh2 {z : Int} (h : rI z) : (2 ≤ jI z) = (2 ≤ z) := by rw [kI2]; exact jIle ⟨by decide, by decide⟩ h
theorem kI3 : (3 : Int32) = jI 3 := rfl
theorem jq3 {z : Int} (h : rI z) : (jI z = 3) = (z = 3) := by rw [kI3]; exact jIeq h ⟨by decide, by decide⟩
theorem jl3 {z : Int} (h : rI z) : (jI z < 3) = (z < 3) := by rw [kI3]; exact jIlt h ⟨by decide, by decide⟩
theorem je3 {z : Int} (h : rI z) : (jI z ≤ 3) = (z ≤ 3) := by rw [kI3]; exact jIle h ⟨by decide, by decide⟩
theorem jg3 {z : Int} (h : rI z) : (3 < jI z) = (3 < z) := by rw [kI3]; exact jIlt ⟨by decide, by decide⟩ h
theorem jh3 {z : Int} (h : rI z) : (3 ≤ jI z) = (3 ≤ z) := by rw [kI3]; exact jIle ⟨by decide, by decide⟩ h
theorem kI4 : (4 : Int32) = jI 4 := rfl
theorem jq4 {z : Int} (h : rI z) : (jI z = 4) = (z = 4) := by rw [kI4]; exact jIeq h ⟨by decide, by decide⟩
theorem jl4 {z : Int} (h : rI z) : (jI z < 4) = (z < 4) := by rw [kI4]; exact jIlt h ⟨by decide, by decide⟩
theorem je4 {z : Int} (h : rI z) : (jI z ≤ 4) = (z ≤ 4) := by rw [kI4]; exact jIle h ⟨by decide, by decide⟩
theorem jg4 {z : Int} (h : rI z) : (4 < jI z) = (4 < z) := by rw [kI4]; exact jIlt ⟨by decide, by decide⟩ h
theorem jh4 {z : Int} (h : rI z) : (4 ≤ jI z) = (4 ≤ z) := by rw [kI4]; exact jIle ⟨by decide, by decide⟩ h
theorem kI5 : (5 : Int32) = jI 5 := rfl
theorem jq5 {z : Int} (h : rI z) : (jI z = 5) = (z = 5) := by rw [kI5]; exact jIeq h ⟨by decide, by decide⟩
theorem jl5 {z : Int} (h : rI z) : (jI z < 5) = (z < 5) := by rw [kI5]; exact jIlt h ⟨by decide, by decide⟩
theorem je5 {z : Int} (h : rI z) : (jI z ≤ 5) = (z ≤ 5) := by rw [kI5]; exact jIle h ⟨by decide, by decide⟩
theorem jg5 {z : Int} (h : rI z) : (5 < jI z) = (5 < z) := by rw [kI5]; exact jIlt ⟨by decide, by decide⟩ h
theorem jh5 {z : Int} (h : rI z) : (5 ≤ jI z) = (5 ≤ z) := by rw [kI5]; exact jIle ⟨by decide, by decide⟩ h
theorem kI6 : (6 : Int32) = jI 6 := rfl
theorem jq6 {z : Int} (h : rI z) : (jI z = 6) = (z = 6) := by rw [kI6]; exact jIeq h ⟨by decide, by decide⟩
theorem jl6 {z : Int} (h : rI z) : (jI z < 6) = (z < 6) := by rw [kI6]; exact jIlt h ⟨by decide, by decide⟩
theorem je6 {z : Int} (h : rI z) : (jI z ≤ 6) = (z ≤ 6) := by rw [kI6]; exact jIle h ⟨by decide, by decide⟩
theorem jg6 {z : Int} (h : rI z) : (6 < jI z) = (6 < z) := by rw [kI6]; exact jIlt ⟨by decide, by decide⟩ h
theorem jh6 {z : Int} (h : rI z) : (6 ≤ jI z) = (6 ≤ z) := by rw [kI6]; exact jIle ⟨by decide, by decide⟩ h
theorem kI7 : (7 : Int32) = jI 7 := rfl
theorem jq7 {z : Int} (h : rI z) : (jI z = 7) = (z = 7) := by rw [kI7]; exact jIeq h ⟨by decide, by decide⟩
theorem jl7 {z : Int} (h : rI z) : (jI z < 7) = (z < 7) := by rw [kI7]; exact jIlt h ⟨by decide, by decide⟩
theorem je7 {z : Int} (h : rI z) : (jI z ≤ 7) = (z ≤ 7) := by rw [kI7]; exact jIle h ⟨by decide, by decide⟩
theorem jg7 {z : Int} (h : rI z) : (7 < jI z) = (7 < z) := by rw [kI7]; exact jIlt ⟨by decide, by decide⟩ h
theorem jh7 {z : Int} (h : rI z) : (7 ≤ jI z) = (7 ≤ z) := by rw [kI7]; exact jIle ⟨by decide, by decide⟩ h
theorem kI8 : (8 : Int32) = jI 8 := rfl
theorem jq8 {z : Int} (h : rI z) : (jI z = 8) = (z = 8) := by rw [kI8]; exact jIeq h ⟨by decide, by decide⟩
theorem jl8 {z : Int} (h : rI z) : (jI z < 8) = (z < 8) := by rw [kI8]; exact jIlt h ⟨by decide, by decide⟩
theorem je8 {z : Int} (h : rI z) : (jI z ≤ 8) = (z ≤ 8) := by rw [kI8]; exact jIle h ⟨by decide, by decide⟩
theorem jg8 {z : Int} (h : rI z) : (8 < jI z) = (8 < z) := by rw [kI8]; exact jIlt ⟨by decide, by decide⟩ h
theorem jh8 {z : Int} (h : rI z) : (8 ≤ jI z) = (8 ≤ z) := by rw [kI8]; exact jIle ⟨by decide, by decide⟩ h
theorem kI9 : (9 : Int32) = jI 9 := rfl
theorem jq9 {z : Int} (h : rI z) : (jI z = 9) = (z = 9) := by rw [kI9]; exact jIeq h ⟨by decide, by decide⟩
theorem jl9 {z : Int} (h : rI z) : (jI z < 9) = (z < 9) := by rw [kI9]; exact jIlt h ⟨by decide, by decide⟩
theorem je9 {z : Int} (h : rI z) : (jI z ≤ 9) = (z ≤ 9) := by rw [kI9]; exact jIle h ⟨by decide, by decide⟩
theorem jg9 {z : Int} (h : rI z) : (9 < jI z) = (9 < z) := by rw [kI9]; exact jIlt ⟨by decide, by decide⟩ h
theorem jh9 {z : Int} (h : rI z) : (9 ≤ jI z) = (9 ≤ z) := by rw [kI9]; exact jIle ⟨by decide, by decide⟩ h
theorem kI10 : (10 : Int32) = jI 10 := rfl
theorem jq10 {z : Int} (h : rI z) : (jI z = 10) = (z = 10) := by rw [kI10]; exact jIeq h ⟨by decide, by decide⟩
theorem jl10 {z : Int} (h : rI z) : (jI z < 10) = (z < 10) := by rw [kI10]; exact jIlt h ⟨by decide, by decide⟩
theorem je10 {z : Int} (h : rI z) : (jI z ≤ 10) = (z ≤ 10) := by rw [kI10]; exact jIle h ⟨by decide, by decide⟩
theorem jg10 {z : Int} (h : rI z) : (10 < jI z) = (10 < z) := by rw [kI10]; exact jIlt ⟨by decide, by decide⟩ h
theorem jh10 {z : Int} (h : rI z) : (10 ≤ jI z) = (10 ≤ z) := by rw [kI10]; exact jIle ⟨by decide, by decide⟩ h
theorem kI11 : (11 : Int32) = jI 11 := rfl
theorem jq11 {z : Int} (h : rI z) : (jI z = 11) = (z = 11) := by rw [kI11]; exact jIeq h ⟨by decide, by decide⟩
theorem jl11 {z : Int} (h : rI z) : (jI z < 11) = (z < 11) := by rw [kI11]; exact jIlt h ⟨by decide, by decide⟩
theorem je11 {z : Int} (h : rI z) : (jI z ≤ 11) = (z ≤ 11) := by rw [kI11]; exact jIle h ⟨by decide, by decide⟩
theorem jg11 {z : Int} (h : rI z) : (11 < jI z) = (11 < z) := by rw [kI11]; exact jIlt ⟨by decide, by decide⟩ h
theorem jh11 {z : Int} (h : rI z) : (11 ≤ jI z) = (11 ≤ z) := by rw [kI11]; exact jIle ⟨by decide, by decide⟩ h
theorem kI12 : (12 : Int32) = jI 12 := rfl
theorem jq12 {z : Int} (h : rI z) : (jI z = 12) = (z = 12) := by rw [kI12]; exact jIeq h ⟨by decide, by decide⟩
theorem jl12 {z : Int} (h : rI z) : (jI z < 12) = (z < 12) := by rw [kI12]; exact jIlt h ⟨by decide, by decide⟩
theorem je12 {z : Int} (h : rI z) : (jI z ≤ 12) = (z ≤ 12) := by rw [kI12]; exact jIle h ⟨by decide, by decide⟩
theorem jg12 {z : Int} (h : rI z) : (12 < jI z) = (12 < z) := by rw [kI12]; exact jIlt ⟨by decide, by decide⟩ h
theorem jh12 {z : Int} (h : rI z) : (12 ≤ jI z) = (12 ≤ z) := by rw [kI12]; exact jIle ⟨by decide, by decide⟩ h
theorem kI13 : (13 : Int32) = jI 13 := rfl
theorem jq13 {z : Int} (h : rI z) : (jI z = 13) = (z = 13) := by rw [kI13]; exact jIeq h ⟨by decide, by decide⟩
theorem jl13 {z : Int} (h : rI z) : (jI z < 13) = (z < 13) := by rw [kI13]; exact jIlt h ⟨by decide, by decide⟩
theorem je13 {z : Int} (h : rI z) : (jI z ≤ 13) = (z ≤ 13) := by rw [kI13]; exact jIle h ⟨by decide, by decide⟩
theorem jg13 {z : Int} (h : rI z) : (13 < jI z) = (13 < z) := by rw [kI13]; exact jIlt ⟨by decide, by decide⟩ h
theorem jh13 {z : Int} (h : rI z) : (13 ≤ jI z) = (13 ≤ z) := by rw [kI13]; exact jIle ⟨by decide, by decide⟩ h
theorem kI14 : (14 : Int32) = jI 14 := rfl
theorem jq14 {z : Int} (h : rI z) : (jI z = 14) = (z = 14) := by rw [kI14]; exact jIeq h ⟨by decide, by decide⟩
theorem jl14 {z : Int} (h : rI z) : (jI z < 14) = (z < 14) := by rw [kI14]; exact jIlt h ⟨by decide, by decide⟩
theorem je14 {z : Int} (h : rI z) : (jI z ≤ 14) = (z ≤ 14) := by rw [kI14]; exact jIle h ⟨by decide, by decide⟩
theorem jg14 {z : Int} (h : rI z) : (14 < jI z) = (14 < z) := by rw [kI14]; exact jIlt ⟨by decide, by decide⟩ h
theorem jh14 {z : Int} (h : rI z) : (14 ≤ jI z) = (14 ≤ z) := by rw [kI14]; exact jIle ⟨by decide, by decide⟩ h
theorem kI15 : (15 : Int32) = jI 15 := rfl
theorem jq15 {z : Int} (h : rI z) : (jI z = 15) = (z = 15) := by rw [kI15]; exact jIeq h ⟨by decide, by decide⟩
theorem jl15 {z : Int} (h : rI z) : (jI z < 15) = (z < 15) := by rw [kI15]; exact jIlt h ⟨by decide, by decide⟩
theorem je15 {z : Int} (h : rI z) : (jI z ≤ 15) = (z ≤ 15) := by rw [kI15]; exact jIle h ⟨by decide, by decide⟩
theorem jg15 {z : Int} (h : rI z) : (15 < jI z) = (15 < z) := by rw [kI15]; exact jIlt ⟨by decide, by decide⟩ h
theorem jh15 {z : Int} (h : rI z) : (15 ≤ jI z) = (15 ≤ z) := by rw [kI15]; exact jIle ⟨by decide, by decide⟩ h
theorem kI16 : (16 : Int32) = jI 16 := rfl
theorem jq16 {z : Int} (h : rI z) : (jI z = 16) = (z = 16) := by rw [kI16]; exact jIeq h ⟨by decide, by decide⟩
theorem jl16 {z : Int} (h : rI z) : (jI z < 16) = (z < 16) := by rw [kI16]; exact jIlt h ⟨by decide, by decide⟩
theorem je16 {z : Int} (h : rI z) : (jI z ≤ 16) = (z ≤ 16) := by rw [kI16]; exact jIle h ⟨by decide, by decide⟩
theorem jg16 {z : Int} (h : rI z) : (16 < jI z) = (16 < z) := by rw [kI16]; exact jIlt ⟨by decide, by decide⟩ h
theorem jh16 {z : Int} (h : rI z) : (16 ≤ jI z) = (16 ≤ z) := by rw [kI16]; exact jIle ⟨by decide, by decide⟩ h
theorem kI17 : (17 : Int32) = jI 17 := rfl
theorem jq17 {z : Int} (h : rI z) : (jI z = 17) = (z = 17) := by rw [kI17]; exact jIeq h ⟨by decide, by decide⟩
theorem jl17 {z : Int} (h : rI z) : (jI z < 17) = (z < 17) := by rw [kI17]; exact jIlt h ⟨by decide, by decide⟩
theorem je17 {z : Int} (h : rI z) : (jI z ≤ 17) = (z ≤ 17) := by rw [kI17]; exact jIle h ⟨by decide, by decide⟩
theorem jg17 {z : Int} (h : rI z) : (17 < jI z) = (17 < z) := by rw [kI17]; exact jIlt ⟨by decide, by decide⟩ h
theorem jh17 {z : Int} (h : rI z) : (17 ≤ jI z) = (17 ≤ z) := by rw [kI17]; exact jIle ⟨by decide, by decide⟩ h
theorem kI18 : (18 : Int32) = jI 18 := rfl
theorem jq18 {z : Int} (h : rI z) : (jI z = 18) = (z = 18) := by rw [kI18]; exact jIeq h ⟨by decide, by decide⟩
theorem jl18 {z : Int} (h : rI z) : (jI z < 18) = (z < 18) := by rw [kI18]; exact jIlt h ⟨by decide, by decide⟩
theorem je18 {z : Int} (h : rI z) : (jI z ≤ 18) = (z ≤ 18) := by rw [kI18]; exact jIle h ⟨by decide, by decide⟩
theorem jg18 {z : Int} (h : rI z) : (18 < jI z) = (18 < z) := by rw [kI18]; exact jIlt ⟨by decide, by decide⟩ h
theorem jh18 {z : Int} (h : rI z) : (18 ≤ jI z) = (18 ≤ z) := by rw [kI18]; exact jIle ⟨by decide, by decide⟩ h
theorem kI19 : (19 : Int32) = jI 19 := rfl
theorem jq19 {z : Int} (h : rI z) : (jI z = 19) = (z = 19) := by rw [kI19]; exact jIeq h ⟨by decide, by decide⟩
theorem jl19 {z : Int} (h : rI z) : (jI z < 19) = (z < 19) := by rw [kI19]; exact jIlt h ⟨by decide, by decide⟩
theorem je19 {z : Int} (h : rI z) : (jI z ≤ 19) = (z ≤ 19) := by rw [kI19]; exact jIle h ⟨by decide, by decide⟩
theorem jg19 {z : Int} (h : rI z) : (19 < jI z) = (19 < z) := by rw [kI19]; exact jIlt ⟨by decide, by decide⟩ h
theorem jh19 {z : Int} (h : rI z) : (19 ≤ jI z) = (19 ≤ z) := by rw [kI19]; exact jIle ⟨by decide, by decide⟩ h
theorem kI20 : (20 : Int32) = jI 20 := rfl
theorem jq20 {z : Int} (h : rI z) : (jI z = 20) = (z = 20) := by rw [kI20]; exact jIeq h ⟨by decide, by decide⟩
theorem jl20 {z : Int} (h : rI z) : (jI z < 20) = (z < 20) := by rw [kI20]; exact jIlt h ⟨by decide, by decide⟩
theorem je20 {z : Int} (h : rI z) : (jI z ≤ 20) = (z ≤ 20) := by rw [kI20]; exact jIle h ⟨by decide, by decide⟩
theorem jg20 {z : Int} (h : rI z) : (20 < jI z) = (20 < z) := by rw [kI20]; exact jIlt ⟨by decide, by decide⟩ h
theorem jh20 {z : Int} (h : rI z) : (20 ≤ jI z) = (20 ≤ z) := by rw [kI20]; exact jIle ⟨by decide, by decide⟩ h
theorem kI21 : (21 : Int32) = jI 21 := rfl
theorem jq21 {z : Int} (h : rI z) : (jI z = 21) = (z = 21) := by rw [kI21]; exact jIeq h ⟨by decide, by decide⟩
theorem jl21 {z : Int} (h : rI z) : (jI z < 21) = (z < 21) := by rw [kI21]; exact jIlt h ⟨by decide, by decide⟩
theorem je21 {z : Int} (h : rI z) : (jI z ≤ 21) = (z ≤ 21) := by rw [kI21]; exact jIle h ⟨by decide, by decide⟩
theorem jg21 {z : Int} (h : rI z) : (21 < jI z) = (21 < z) := by rw [kI21]; exact jIlt ⟨by decide, by decide⟩ h
theorem jh21 {z : Int} (h : rI z) : (21 ≤ jI z) = (21 ≤ z) := by rw [kI21]; exact jIle ⟨by decide, by decide⟩ h
theorem kI22 : (22 : Int32) = jI 22 := rfl
theorem jq22 {z : Int} (h : rI z) : (jI z = 22) = (z = 22) := by rw [kI22]; exact jIeq h ⟨by decide, by decide⟩
theorem jl22 {z : Int} (h : rI z) : (jI z < 22) = (z < 22) := by rw [kI22]; exact jIlt h ⟨by decide, by decide⟩
theorem je22 {z : Int} (h : rI z) : (jI z ≤ 22) = (z ≤ 22) := by rw [kI22]; exact jIle h ⟨by decide, by decide⟩
theorem jg22 {z : Int} (h : rI z) : (22 < jI z) = (22 < z) := by rw [kI22]; exact jIlt ⟨by decide, by decide⟩ h
theorem jh22 {z : Int} (h : rI z) : (22 ≤ jI z) = (22 ≤ z) := by rw [kI22]; exact jIle ⟨by decide, by decide⟩ h
theorem kI24 : (24 : Int32) = jI 24 := rfl
theorem jq24 {z : Int} (h : rI z) : (jI z = 24) = (z = 24) := by rw [kI24]; exact jIeq h ⟨by decide, by decide⟩
theorem jl24 {z : Int} (h : rI z) : (jI z < 24) = (z < 24) := by rw [kI24]; exact jIlt h ⟨by decide, by decide⟩
theorem je24 {z : Int} (h : rI z) : (jI z ≤ 24) = (z ≤ 24) := by rw [kI24]; exact jIle h ⟨by decide, by decide⟩
theorem jg24 {z : Int} (h : rI z) : (24 < jI z) = (24 < z) := by rw [kI24]; exact jIlt ⟨by decide, by decide⟩ h
theorem jh24 {z : Int} (h : rI z) : (24 ≤ jI z) = (24 ≤ z) := by rw [kI24]; exact jIle ⟨by decide, by decide⟩ h
theorem kI25 : (25 : Int32) = jI 25 := rfl
theorem jq25 {z : Int} (h : rI z) : (jI z = 25) = (z = 25) := by rw [kI25]; exact jIeq h ⟨by decide, by decide⟩
theorem jl25 {z : Int} (h : rI z) : (jI z < 25) = (z < 25) := by rw [kI25]; exact jIlt h ⟨by decide, by decide⟩
theorem je25 {z : Int} (h : rI z) : (jI z ≤ 25) = (z ≤ 25) := by rw [kI25]; exact jIle h ⟨by decide, by decide⟩
theorem jg25 {z : Int} (h : rI z) : (25 < jI z) = (25 < z) := by rw [kI25]; exact jIlt ⟨by decide, by decide⟩ h
theorem jh25 {z : Int} (h : rI z) : (25 ≤ jI z) = (25 ≤ z) := by rw [kI25]; exact jIle ⟨by decide, by decide⟩ h
theorem kI31 : (31 : Int32) = jI 31 := rfl
theorem jq31 {z : Int} (h : rI z) : (jI z = 31) = (z = 31) := by rw [kI31]; exact jIeq h ⟨by decide, by decide⟩
theorem jl31 {z : Int} (h : rI z) : (jI z < 31) = (z < 31) := by rw [kI31]; exact jIlt h ⟨by decide, by decide⟩
theorem je31 {z : Int} (h : rI z) : (jI z ≤ 31) = (z ≤ 31) := by rw [kI31]; exact jIle h ⟨by decide, by decide⟩
theorem jg31 {z : Int} (h : rI z) : (31 < jI z) = (31 < z) := by rw [kI31]; exact jIlt ⟨by decide, by decide⟩ h
theorem jh31 {z : Int} (h : rI z) : (31 ≤ jI z) = (31 ≤ z) := by rw [kI31]; exact jIle ⟨by decide, by decide⟩ h
theorem kI33 : (33 : Int32) = jI 33 := rfl
theorem jq33 {z : Int} (h : rI z) : (jI z = 33) = (z = 33) := by rw [kI33]; exact jIeq h ⟨by decide, by decide⟩
theorem jl33 {z : Int} (h : rI z) : (jI z < 33) = (z < 33) := by rw [kI33]; exact jIlt h ⟨by decide, by decide⟩
theorem je33 {z : Int} (h : rI z) : (jI z ≤ 33) = (z ≤ 33) := by rw [kI33]; exact jIle h ⟨by decide, by decide⟩
theorem jg33 {z : Int} (h : rI z) : (33 < jI z) = (33 < z) := by rw [kI33]; exact jIlt ⟨by decide, by decide⟩ h
theorem jh33 {z : Int} (h : rI z) : (33 ≤ jI z) = (33 ≤ z) := by rw [kI33]; exact jIle ⟨by decide, by decide⟩ h
theorem kI34 : (34 : Int32) = jI 34 := rfl
theorem jq34 {z : Int} (h : rI z) : (jI z = 34) = (z = 34) := by rw [kI34]; exact jIeq h ⟨by decide, by decide⟩
theorem jl34 {z : Int} (h : rI z) : (jI z < 34) = (z < 34) := by rw [kI34]; exact jIlt h ⟨by decide, by decide⟩
theorem je34 {z : Int} (h : rI z) : (jI z ≤ 34) = (z ≤ 34) := by rw [kI34]; exact jIle h ⟨by decide, by decide⟩
theorem jg34 {z : Int} (h : rI z) : (34 < jI z) = (34 < z) := by rw [kI34]; exact jIlt ⟨by decide, by decide⟩ h
theorem jh34 {z : Int} (h : rI z) : (34 ≤ jI z) = (34 ≤ z) := by rw [kI34]; exact jIle ⟨by decide, by decide⟩ h
theorem kI37 : (37 : Int32) = jI 37 := rfl
theorem jq37 {z : Int} (h : rI z) : (jI z = 37) = (z = 37) := by rw [kI37]; exact jIeq h ⟨by decide, by decide⟩
theorem jl37 {z : Int} (h : rI z) : (jI z < 37) = (z < 37) := by rw [kI37]; exact jIlt h ⟨by decide, by decide⟩
theorem je37 {z : Int} (h : rI z) : (jI z ≤ 37) = (z ≤ 37) := by rw [kI37]; exact jIle h ⟨by decide, by decide⟩
theorem jg37 {z : Int} (h : rI z) : (37 < jI z) = (37 < z) := by rw [kI37]; exact jIlt ⟨by decide, by decide⟩ h
theorem jh37 {z : Int} (h : rI z) : (37 ≤ jI z) = (37 ≤ z) := by rw [kI37]; exact jIle ⟨by decide, by decide⟩ h
theorem kI38 : (38 : Int32) = jI 38 := rfl
theorem jq38 {z : Int} (h : rI z) : (jI z = 38) = (z = 38) := by rw [kI38]; exact jIeq h ⟨by decide, by decide⟩
theorem jl38 {z : Int} (h : rI z) : (jI z < 38) = (z < 38) := by rw [kI38]; exact jIlt h ⟨by decide, by decide⟩
theorem je38 {z : Int} (h : rI z) : (jI z ≤ 38) = (z ≤ 38) := by rw [kI38]; exact jIle h ⟨by decide, by decide⟩
theorem jg38 {z : Int} (h : rI z) : (38 < jI z) = (38 < z) := by rw [kI38]; exact jIlt ⟨by decide, by decide⟩ h
theorem jh38 {z : Int} (h : rI z) : (38 ≤ jI z) = (38 ≤ z) := by rw [kI38]; exact jIle ⟨by decide, by decide⟩ h
theorem kI40 : (40 : Int32) = jI 40 := rfl
theorem jq40 {z : Int} (h : rI z) : (jI z = 40) = (z = 40) := by rw [kI40]; exact jIeq h ⟨by decide, by decide⟩
theorem jl40 {z : Int} (h : rI z) : (jI z < 40) = (z < 40) := by rw [kI40]; exact jIlt h ⟨by decide, by decide⟩
theorem je40 {z : Int} (h : rI z) : (jI z ≤ 40) = (z ≤ 40) := by rw [kI40]; exact jIle h ⟨by decide, by decide⟩
theorem jg40 {z : Int} (h : rI z) : (40 < jI z) = (40 < z) := by rw [kI40]; exact jIlt ⟨by decide, by decide⟩ h
theorem jh40 {z : Int} (h : rI z) : (40 ≤ jI z) = (40 ≤ z) := by rw [kI40]; exact jIle ⟨by decide, by decide⟩ h
theorem kI41 : (41 : Int32) = jI 41 := rfl
theorem jq41 {z : Int} (h : rI z) : (jI z = 41) = (z = 41) := by rw [kI41]; exact jIeq h ⟨by decide, by decide⟩
theorem jl41 {z : Int} (h : rI z) : (jI z < 41) = (z < 41) := by rw [kI41]; exact jIlt h ⟨by decide, by decide⟩
theorem je41 {z : Int} (h : rI z) : (jI z ≤ 41) = (z ≤ 41) := by rw [kI41]; exact jIle h ⟨by decide, by decide⟩
theorem jg41 {z : Int} (h : rI z) : (41 < jI z) = (41 < z) := by rw [kI41]; exact jIlt ⟨by decide, by decide⟩ h
theorem jh41 {z : Int} (h : rI z) : (41 ≤ jI z) = (41 ≤ z) := by rw [kI41]; exact jIle ⟨by decide, by decide⟩ h
theorem kI42 : (42 : Int32) = jI 42 := rfl
theorem jq42 {z : Int} (h : rI z) : (jI z = 42) = (z = 42) := by rw [kI42]; exact jIeq h ⟨by decide, by decide⟩
theorem jl42 {z : Int} (h : rI z) : (jI z < 42) = (z < 42) := by rw [kI42]; exact jIlt h ⟨by decide, by decide⟩
theorem je42 {z : Int} (h : rI z) : (jI z ≤ 42) = (z ≤ 42) := by rw [kI42]; exact jIle h ⟨by decide, by decide⟩
theorem jg42 {z : Int} (h : rI z) : (42 < jI z) = (42 < z) := by rw [kI42]; exact jIlt ⟨by decide, by decide⟩ h
theorem jh42 {z : Int} (h : rI z) : (42 ≤ jI z) = (42 ≤ z) := by rw [kI42]; exact jIle ⟨by decide, by decide⟩ h
theorem kI43 : (43 : Int32) = jI 43 := rfl
theorem jq43 {z : Int} (h : rI z) : (jI z = 43) = (z = 43) := by rw [kI43]; exact jIeq h ⟨by decide, by decide⟩
theorem jl43 {z : Int} (h : rI z) : (jI z < 43) = (z < 43) := by rw [kI43]; exact jIlt h ⟨by decide, by decide⟩
theorem je43 {z : Int} (h : rI z) : (jI z ≤ 43) = (z ≤ 43) := by rw [kI43]; exact jIle h ⟨by decide, by decide⟩
theorem jg43 {z : Int} (h : rI z) : (43 < jI z) = (43 < z) := by rw [kI43]; exact jIlt ⟨by decide, by decide⟩ h
theorem jh43 {z : Int} (h : rI z) : (43 ≤ jI z) = (43 ≤ z) := by rw [kI43]; exact jIle ⟨by decide, by decide⟩ h
theorem kI45 : (45 : Int32) = jI 45 := rfl
theorem jq45 {z : Int} (h : rI z) : (jI z = 45) = (z = 45) := by rw [kI45]; exact jIeq h ⟨by decide, by decide⟩
theorem jl45 {z : Int} (h : rI z) : (jI z < 45) = (z < 45) := by rw [kI45]; exact jIlt h ⟨by decide, by decide⟩
theorem je45 {z : Int} (h : rI z) : (jI z ≤ 45) = (z ≤ 45) := by rw [kI45]; exact jIle h ⟨by decide, by decide⟩
theorem jg45 {z : Int} (h : rI z) : (45 < jI z) = (45 < z) := by rw [kI45]; exact jIlt ⟨by decide, by decide⟩ h
theorem jh45 {z : Int} (h : rI z) : (45 ≤ jI z) = (45 ≤ z) := by rw [kI45]; exact jIle ⟨by decide, by decide⟩ h
theorem kI47 : (47 : Int32) = jI 47 := rfl
theorem jq47 {z : Int} (h : rI z) : (jI z = 47) = (z = 47) := by rw [kI47]; exact jIeq h ⟨by decide, by decide⟩
theorem jl47 {z : Int} (h : rI z) : (jI z < 47) = (z < 47) := by rw [kI47]; exact jIlt h ⟨by decide, by decide⟩
theorem je47 {z : Int} (h : rI z) : (jI z ≤ 47) = (z ≤ 47) := by rw [kI47]; exact jIle h ⟨by decide, by decide⟩
theorem jg47 {z : Int} (h : rI z) : (47 < jI z) = (47 < z) := by rw [kI47]; exact jIlt ⟨by decide, by decide⟩ h
theorem jh47 {z : Int} (h : rI z) : (47 ≤ jI z) = (47 ≤ z) := by rw [kI47]; exact jIle ⟨by decide, by decide⟩ h
theorem kI48 : (48 : Int32) = jI 48 := rfl
theorem jq48 {z : Int} (h : rI z) : (jI z = 48) = (z = 48) := by rw [kI48]; exact jIeq h ⟨by decide, by decide⟩
theorem jl48 {z : Int} (h : rI z) : (jI z < 48) = (z < 48) := by rw [kI48]; exact jIlt h ⟨by decide, by decide⟩
theorem je48 {z : Int} (h : rI z) : (jI z ≤ 48) = (z ≤ 48) := by rw [kI48]; exact jIle h ⟨by decide, by decide⟩
theorem jg48 {z : Int} (h : rI z) : (48 < jI z) = (48 < z) := by rw [kI48]; exact jIlt ⟨by decide, by decide⟩ h
theorem jh48 {z : Int} (h : rI z) : (48 ≤ jI z) = (48 ≤ z) := by rw [kI48]; exact jIle ⟨by decide, by decide⟩ h
theorem kI57 : (57 : Int32) = jI 57 := rfl
theorem jq57 {z : Int} (h : rI z) : (jI z = 57) = (z = 57) := by rw [kI57]; exact jIeq h ⟨by decide, by decide⟩
theorem jl57 {z : Int} (h : rI z) : (jI z < 57) = (z < 57) := by rw [kI57]; exact jIlt h ⟨by decide, by decide⟩
theorem je57 {z : Int} (h : rI z) : (jI z ≤ 57) = (z ≤ 57) := by rw [kI57]; exact jIle h ⟨by decide, by decide⟩
theorem jg57 {z : Int} (h : rI z) : (57 < jI z) = (57 < z) := by rw [kI57]; exact jIlt ⟨by decide, by decide⟩ h
theorem jh57 {z : Int} (h : rI z) : (57 ≤ jI z) = (57 ≤ z) := by rw [kI57]; exact jIle ⟨by decide, by decide⟩ h
theorem kI59 : (59 : Int32) = jI 59 := rfl
theorem jq59 {z : Int} (h : rI z) : (jI z = 59) = (z = 59) := by rw [kI59]; exact jIeq h ⟨by decide, by decide⟩
theorem jl59 {z : Int} (h : rI z) : (jI z < 59) = (z < 59) := by rw [kI59]; exact jIlt h ⟨by decide, by decide⟩
theorem je59 {z : Int} (h : rI z) : (jI z ≤ 59) = (z ≤ 59) := by rw [kI59]; exact jIle h ⟨by decide, by decide⟩
theorem jg59 {z : Int} (h : rI z) : (59 < jI z) = (59 < z) := by rw [kI59]; exact jIlt ⟨by decide, by decide⟩ h
theorem jh59 {z : Int} (h : rI z) : (59 ≤ jI z) = (59 ≤ z) := by rw [kI59]; exact jIle ⟨by decide, by decide⟩ h
theorem kI60 : (60 : Int32) = jI 60 := rfl
theorem jq60 {z : Int} (h : rI z) : (jI z = 60) = (z = 60) := by rw [kI60]; exact jIeq h ⟨by decide, by decide⟩
theorem jl60 {z : Int} (h : rI z) : (jI z < 60) = (z < 60) := by rw [kI60]; exact jIlt h ⟨by decide, by decide⟩
theorem je60 {z : Int} (h : rI z) : (jI z ≤ 60) = (z ≤ 60) := by rw [kI60]; exact jIle h ⟨by decide, by decide⟩
theorem jg60 {z : Int} (h : rI z) : (60 < jI z) = (60 < z) := by rw [kI60]; exact jIlt ⟨by decide, by decide⟩ h
theorem jh60 {z : Int} (h : rI z) : (60 ≤ jI z) = (60 ≤ z) := by rw [kI60]; exact jIle ⟨by decide, by decide⟩ h
theorem kI61 : (61 : Int32) = jI 61 := rfl
theorem jq61 {z : Int} (h : rI z) : (jI z = 61) = (z = 61) := by rw [kI61]; exact jIeq h ⟨by decide, by decide⟩
theorem jl61 {z : Int} (h : rI z) : (jI z < 61) = (z < 61) := by rw [kI61]; exact jIlt h ⟨by decide, by decide⟩
theorem je61 {z : Int} (h : rI z) : (jI z ≤ 61) = (z ≤ 61) := by rw [kI61]; exact jIle h ⟨by decide, by decide⟩
theorem jg61 {z : Int} (h : rI z) : (61 < jI z) = (61 < z) := by rw [kI61]; exact jIlt ⟨by decide, by decide⟩ h
theorem jh61 {z : Int} (h : rI z) : (61 ≤ jI z) = (61 ≤ z) := by rw [kI61]; exact jIle ⟨by decide, by decide⟩ h
theorem kI62 : (62 : Int32) = jI 62 := rfl
theorem jq62 {z : Int} (h : rI z) : (jI z = 62) = (z = 62) := by rw [kI62]; exact jIeq h ⟨by decide, by decide⟩
theorem jl62 {z : Int} (h : rI z) : (jI z < 62) = (z < 62) := by rw [kI62]; exact jIlt h ⟨by decide, by decide⟩
theorem je62 {z : Int} (h : rI z) : (jI z ≤ 62) = (z ≤ 62) := by rw [kI62]; exact jIle h ⟨by decide, by decide⟩
theorem jg62 {z : Int} (h : rI z) : (62 < jI z) = (62 < z) := by rw [kI62]; exact jIlt ⟨by decide, by decide⟩ h
theorem jh62 {z : Int} (h : rI z) : (62 ≤ jI z) = (62 ≤ z) := by rw [kI62]; exact jIle ⟨by decide, by decide⟩ h
theorem kI80 : (80 : Int32) = jI 80 := rfl
theorem jq80 {z : Int} (h : rI z) : (jI z = 80) = (z = 80) := by rw [kI80]; exact jIeq h ⟨by decide, by decide⟩
theorem jl80 {z : Int} (h : rI z) : (jI z < 80) = (z < 80) := by rw [kI80]; exact jIlt h ⟨by decide, by decide⟩
theorem je80 {z : Int} (h : rI z) : (jI z ≤ 80) = (z ≤ 80) := by rw [kI80]; exact jIle h ⟨by decide, by decide⟩
theorem jg80 {z : Int} (h : rI z) : (80 < jI z) = (80 < z) := by rw [kI80]; exact jIlt ⟨by decide, by decide⟩ h
theorem jh80 {z : Int} (h : rI z) : (80 ≤ jI z) = (80 ≤ z) := by rw [kI80]; exact jIle ⟨by decide, by decide⟩ h
theorem kI91 : (91 : Int32) = jI 91 := rfl
theorem jq91 {z : Int} (h : rI z) : (jI z = 91) = (z = 91) := by rw [kI91]; exact jIeq h ⟨by decide, by decide⟩
theorem jl91 {z : Int} (h : rI z) : (jI z < 91) = (z < 91) := by rw [kI91]; exact jIlt h ⟨by decide, by decide⟩
theorem je91 {z : Int} (h : rI z) : (jI z ≤ 91) = (z ≤ 91) := by rw [kI91]; exact jIle h ⟨by decide, by decide⟩
theorem jg91 {z : Int} (h : rI z) : (91 < jI z) = (91 < z) := by rw [kI91]; exact jIlt ⟨by decide, by decide⟩ h
theorem jh91 {z : Int} (h : rI z) : (91 ≤ jI z) = (91 ≤ z) := by rw [kI91]; exact jIle ⟨by decide, by decide⟩ h
theorem kI93 : (93 : Int32) = jI 93 := rfl
theorem jq93 {z : Int} (h : rI z) : (jI z = 93) = (z = 93) := by rw [kI93]; exact jIeq h ⟨by decide, by decide⟩
theorem jl93 {z : Int} (h : rI z) : (jI z < 93) = (z < 93) := by rw [kI93]; exact jIlt h ⟨by decide, by decide⟩
theorem je93 {z : Int} (h : rI z) : (jI z ≤ 93) = (z ≤ 93) := by rw [kI93]; exact jIle h ⟨by decide, by decide⟩
theorem jg93 {z : Int} (h : rI z) : (93 < jI z) = (93 < z) := by rw [kI93]; exact jIlt ⟨by decide, by decide⟩ h
theorem jh93 {z : Int} (h : rI z) : (93 ≤ jI z) = (93 ≤ z) := by rw [kI93]; exact jIle ⟨by decide, by decide⟩ h
theorem kI100 : (100 : Int32) = jI 100 := rfl
theorem jq100 {z : Int} (h : rI z) : (jI z = 100) = (z = 100) := by rw [kI100]; exact jIeq h ⟨by decide, by decide⟩
theorem jl100 {z : Int} (h : rI z) : (jI z < 100) = (z < 100) := by rw [kI100]; exact jIlt h ⟨by decide, by decide⟩
theorem je100 {z : Int} (h : rI z) : (jI z ≤ 100) = (z ≤ 100) := by rw [kI100]; exact jIle h ⟨by decide, by decide⟩
theorem jg100 {z : Int} (h : rI z) : (100 < jI z) = (100 < z) := by rw [kI100]; exact jIlt ⟨by decide, by decide⟩ h
theorem jh100 {z : Int} (h : rI z) : (100 ≤ jI z) = (100 ≤ z) := by rw [kI100]; exact jIle ⟨by decide, by decide⟩ h
theorem kI101 : (101 : Int32) = jI 101 := rfl
theorem jq101 {z : Int} (h : rI z) : (jI z = 101) = (z = 101) := by rw [kI101]; exact jIeq h ⟨by decide, by decide⟩
theorem jl101 {z : Int} (h : rI z) : (jI z < 101) = (z < 101) := by rw [kI101]; exact jIlt h ⟨by decide, by decide⟩
theorem je101 {z : Int} (h : rI z) : (jI z ≤ 101) = (z ≤ 101) := by rw [kI101]; exact jIle h ⟨by decide, by decide⟩
theorem jg101 {z : Int} (h : rI z) : (101 < jI z) = (101 < z) := by rw [kI101]; exact jIlt ⟨by decide, by decide⟩ h
theorem jh101 {z : Int} (h : rI z) : (101 ≤ jI z) = (101 ≤ z) := by rw [kI101]; exact jIle ⟨by decide, by decide⟩ h
theorem kI104 : (104 : Int32) = jI 104 := rfl
theorem jq104 {z : Int} (h : rI z) : (jI z = 104) = (z = 104) := by rw [kI104]; exact jIeq h ⟨by decide, by decide⟩
theorem jl104 {z : Int} (h : rI z) : (jI z < 104) = (z < 104) := by rw [kI104]; exact jIlt h ⟨by decide, by decide⟩
theorem je104 {z : Int} (h : rI z) : (jI z ≤ 104) = (z ≤ 104) := by rw [kI104]; exact jIle h ⟨by decide, by decide⟩
theorem jg104 {z : Int} (h : rI z) : (104 < jI z) = (104 < z) := by rw [kI104]; exact jIlt ⟨by decide, by decide⟩ h
theorem jh104 {z : Int} (h : rI z) : (104 ≤ jI z) = (104 ≤ z) := by rw [kI104]; exact jIle ⟨by decide, by decide⟩ h
theorem kI105 : (105 : Int32) = jI 105 := rfl
theorem jq105 {z : Int} (h : rI z) : (jI z = 105) = (z = 105) := by rw [kI105]; exact jIeq h ⟨by decide, by decide⟩
theorem jl105 {z : Int} (h : rI z) : (jI z < 105) = (z < 105) := by rw [kI105]; exact jIlt h ⟨by decide, by decide⟩
theorem je105 {z : Int} (h : rI z) : (jI z ≤ 105) = (z ≤ 105) := by rw [kI105]; exact jIle h ⟨by decide, by decide⟩
theorem jg105 {z : Int} (h : rI z) : (105 < jI z) = (105 < z) := by rw [kI105]; exact jIlt ⟨by decide, by decide⟩ h
theorem jh105 {z : Int} (h : rI z) : (105 ≤ jI z) = (105 ≤ z) := by rw [kI105]; exact jIle ⟨by decide, by decide⟩ h
theorem kI106 : (106 : Int32) = jI 106 := rfl
theorem jq106 {z : Int} (h : rI z) : (jI z = 106) = (z = 106) := by rw [kI106]; exact jIeq h ⟨by decide, by decide⟩
theorem jl106 {z : Int} (h : rI z) : (jI z < 106) = (z < 106) := by rw [kI106]; exact jIlt h ⟨by decide, by decide⟩
theorem je106 {z : Int} (h : rI z) : (jI z ≤ 106) = (z ≤ 106) := by rw [kI106]; exact jIle h ⟨by decide, by decide⟩
theorem jg106 {z : Int} (h : rI z) : (106 < jI z) = (106 < z) := by rw [kI106]; exact jIlt ⟨by decide, by decide⟩ h
theorem jh106 {z : Int} (h : rI z) : (106 ≤ jI z) = (106 ≤ z) := by rw [kI106]; exact jIle ⟨by decide, by decide⟩ h
theorem kI115 : (115 : Int32) = jI 115 := rfl
theorem jq115 {z : Int} (h : rI z) : (jI z = 115) = (z = 115) := by rw [kI115]; exact jIeq h ⟨by decide, by decide⟩
theorem jl115 {z : Int} (h : rI z) : (jI z < 115) = (z < 115) := by rw [kI115]; exact jIlt h ⟨by decide, by decide⟩
theorem je115 {z : Int} (h : rI z) : (jI z ≤ 115) = (z ≤ 115) := by rw [kI115]; exact jIle h ⟨by decide, by decide⟩
theorem jg115 {z : Int} (h : rI z) : (115 < jI z) = (115 < z) := by rw [kI115]; exact jIlt ⟨by decide, by decide⟩ h
theorem jh115 {z : Int} (h : rI z) : (115 ≤ jI z) = (115 ≤ z) := by rw [kI115]; exact jIle ⟨by decide, by decide⟩ h
theorem kI124 : (124 : Int32) = jI 124 := rfl
theorem jq124 {z : Int} (h : rI z) : (jI z = 124) = (z = 124) := by rw [kI124]; exact jIeq h ⟨by decide, by decide⟩
theorem jl124 {z : Int} (h : rI z) : (jI z < 124) = (z < 124) := by rw [kI124]; exact jIlt h ⟨by decide, by decide⟩
theorem je124 {z : Int} (h : rI z) : (jI z ≤ 124) = (z ≤ 124) := by rw [kI124]; exact jIle h ⟨by decide, by decide⟩
theorem jg124 {z : Int} (h : rI z) : (124 < jI z) = (124 < z) := by rw [kI124]; exact jIlt ⟨by decide, by decide⟩ h
theorem jh124 {z : Int} (h : rI z) : (124 ≤ jI z) = (124 ≤ z) := by rw [kI124]; exact jIle ⟨by decide, by decide⟩ h
theorem kI126 : (126 : Int32) = jI 126 := rfl
theorem jq126 {z : Int} (h : rI z) : (jI z = 126) = (z = 126) := by rw [kI126]; exact jIeq h ⟨by decide, by decide⟩
theorem jl126 {z : Int} (h : rI z) : (jI z < 126) = (z < 126) := by rw [kI126]; exact jIlt h ⟨by decide, by decide⟩
theorem je126 {z : Int} (h : rI z) : (jI z ≤ 126) = (z ≤ 126) := by rw [kI126]; exact jIle h ⟨by decide, by decide⟩
theorem jg126 {z : Int} (h : rI z) : (126 < jI z) = (126 < z) := by rw [kI126]; exact jIlt ⟨by decide, by decide⟩ h
theorem jh126 {z : Int} (h : rI z) : (126 ≤ jI z) = (126 ≤ z) := by rw [kI126]; exact jIle ⟨by decide, by decide⟩ h
theorem kI200 : (200 : Int32) = jI 200 := rfl
theorem jq200 {z : Int} (h : rI z) : (jI z = 200) = (z = 200) := by rw [kI200]; exact jIeq h ⟨by decide, by decide⟩
theorem jl200 {z : Int} (h : rI z) : (jI z < 200) = (z < 200) := by rw [kI200]; exact jIlt h ⟨by decide, by decide⟩
theorem je200 {z : Int} (h : rI z) : (jI z ≤ 200) = (z ≤ 200) := by rw [kI200]; exact jIle h ⟨by decide, by decide⟩
theorem jg200 {z : Int} (h : rI z) : (200 < jI z) = (200 < z) := by rw [kI200]; exact jIlt ⟨by decide, by decide⟩ h
theorem jh200 {z : Int} (h : rI z) : (200 ≤ jI z) = (200 ≤ z) := by rw [kI200]; exact jIle ⟨by decide, by decide⟩ h
theorem kI210 : (210 : Int32) = jI 210 := rfl
theorem jq210 {z : Int} (h : rI z) : (jI z = 210) = (z = 210) := by rw [kI210]; exact jIeq h ⟨by decide, by decide⟩
theorem jl210 {z : Int} (h : rI z) : (jI z < 210) = (z < 210) := by rw [kI210]; exact jIlt h ⟨by decide, by decide⟩
theorem je210 {z : Int} (h : rI z) : (jI z ≤ 210) = (z ≤ 210) := by rw [kI210]; exact jIle h ⟨by decide, by decide⟩
theorem jg210 {z : Int} (h : rI z) : (210 < jI z) = (210 < z) := by rw [kI210]; exact jIlt ⟨by decide, by decide⟩ h
theorem jh210 {z : Int} (h : rI z) : (210 ≤ jI z) = (210 ≤ z) := by rw [kI210]; exact jIle ⟨by decide, by decide⟩ h
theorem kI220 : (220 : Int32) = jI 220 := rfl
theorem jq220 {z : Int} (h : rI z) : (jI z = 220) = (z = 220) := by rw [kI220]; exact jIeq h ⟨by decide, by decide⟩
theorem jl220 {z : Int} (h : rI z) : (jI z < 220) = (z < 220) := by rw [kI220]; exact jIlt h ⟨by decide, by decide⟩
theorem je220 {z : Int} (h : rI z) : (jI z ≤ 220) = (z ≤ 220) := by rw [kI220]; exact jIle h ⟨by decide, by decide⟩
theorem jg220 {z : Int} (h : rI z) : (220 < jI z) = (220 < z) := by rw [kI220]; exact jIlt ⟨by decide, by decide⟩ h
theorem jh220 {z : Int} (h : rI z) : (220 ≤ jI z) = (220 ≤ z) := by rw [kI220]; exact jIle ⟨by decide, by decide⟩ h
theorem kI1040 : (1040 : Int32) = jI 1040 := rfl
theorem jq1040 {z : Int} (h : rI z) : (jI z = 1040) = (z = 1040) := by rw [kI1040]; exact jIeq h ⟨by decide, by decide⟩
theorem jl1040 {z : Int} (h : rI z) : (jI z < 1040) = (z < 1040) := by rw [kI1040]; exact jIlt h ⟨by decide, by decide⟩
theorem je1040 {z : Int} (h : rI z) : (jI z ≤ 1040) = (z ≤ 1040) := by rw [kI1040]; exact jIle h ⟨by decide, by decide⟩
theorem jg1040 {z : Int} (h : rI z) : (1040 < jI z) = (1040 < z) := by rw [kI1040]; exact jIlt ⟨by decide, by decide⟩ h
theorem jh1040 {z : Int} (h : rI z) : (1040 ≤ jI z) = (1040 ≤ z) := by rw [kI1040]; exact jIle ⟨by decide, by decide⟩ h
theorem kI1053 : (1053 : Int32) = jI 1053 := rfl
theorem jq1053 {z : Int} (h : rI z) : (jI z = 1053) = (z = 1053) := by rw [kI1053]; exact jIeq h ⟨by decide, by decide⟩
theorem jl1053 {z : Int} (h : rI z) : (jI z < 1053) = (z < 1053) := by rw [kI1053]; exact jIlt h ⟨by decide, by decide⟩
theorem je1053 {z : Int} (h : rI z) : (jI z ≤ 1053) = (z ≤ 1053) := by rw [kI1053]; exact jIle h ⟨by decide, by decide⟩
theorem jg1053 {z : Int} (h : rI z) : (1053 < jI z) = (1053 < z) := by rw [kI1053]; exact jIlt ⟨by decide, by decide⟩ h
theorem jh1053 {z : Int} (h : rI z) : (1053 ≤ jI z) = (1053 ≤ z) := by rw [kI1053]; exact jIle ⟨by decide, by decide⟩ h
theorem kI25200 : (25200 : Int32) = jI 25200 := rfl
theorem jq25200 {z : Int} (h : rI z) : (jI z = 25200) = (z = 25200) := by rw [kI25200]; exact jIeq h ⟨by decide, by decide⟩
theorem jl25200 {z : Int} (h : rI z) : (jI z < 25200) = (z < 25200) := by rw [kI25200]; exact jIlt h ⟨by decide, by decide⟩
theorem je25200 {z : Int} (h : rI z) : (jI z ≤ 25200) = (z ≤ 25200) := by rw [kI25200]; exact jIle h ⟨by decide, by decide⟩
theorem jg25200 {z : Int} (h : rI z) : (25200 < jI z) = (25200 < z) := by rw [kI25200]; exact jIlt ⟨by decide, by decide⟩ h
theorem jh25200 {z : Int} (h : rI z) : (25200 ≤ jI z) = (25200 ≤ z) := by rw [kI25200]; exact jIle ⟨by decide, by decide⟩ h
theorem kI277200 : (277200 : Int32) = jI 277200 := rfl
theorem jq277200 {z : Int} (h : rI z) : (jI z = 277200) = (z = 277200) := by rw [kI277200]; exact jIeq h ⟨by decide, by decide⟩
theorem jl277200 {z : Int} (h : rI z) : (jI z < 277200) = (z < 277200) := by rw [kI277200]; exact jIlt h ⟨by decide, by decide⟩
theorem je277200 {z : Int} (h : rI z) : (jI z ≤ 277200) = (z ≤ 277200) := by rw [kI277200]; exact jIle h ⟨by decide, by decide⟩
theorem jg277200 {z : Int} (h : rI z) : (277200 < jI z) = (277200 < z) := by rw [kI277200]; exact jIlt ⟨by decide, by decide⟩ h
theorem jh277200 {z : Int} (h : rI z) : (277200 ≤ jI z) = (277200 ≤ z) := by rw [kI277200]; exact jIle ⟨by decide, by decide⟩ h
theorem jqN {z : Int} (h : rI z) : (jI z = -1) = (z = -1) := by rw [show (-1 : Int32) = jI (-1) from rfl]; exact jIeq h ⟨by decide, by decide⟩
theorem rI_of' {z : Int} (h1 : -2147483648 ≤ z) (h2 : z ≤ 2147483647) : rI z := ⟨by omega, by omega⟩
theorem jI_s (k : Nat) : jI (k : Int) + 1 = jI ((k + 1 : Nat) : Int) := by rw [kI1, jI_add]; rfl
theorem jI_p (k : Nat) : jI ((k + 1 : Nat) : Int) - 1 = jI (k : Int) := by rw [kI1, jI_sub, show ((k + 1 : Nat) : Int) - 1 = (k : Int) by omega]
theorem jI_p2 (k : Nat) : jI ((k + 2 : Nat) : Int) - 1 = jI ((k + 1 : Nat) : Int) := jI_p (k + 1)
