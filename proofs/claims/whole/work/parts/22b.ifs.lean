/-! CHECKS of calls of members and constructors, by program (wip/tools/ifs.py) -/
set_option maxRecDepth 100000 in
theorem if_RJ13 : ifB RJ13 P_RJ13 [] = true := by decide +kernel
set_option maxRecDepth 100000 in
theorem if_RX0 : ifB RX0 P_RX0 [] = true := by decide +kernel
set_option maxRecDepth 100000 in
theorem if_RX1 : ifB RX1 P_RX1 [] = true := by decide +kernel
set_option maxRecDepth 100000 in
theorem if_RX2 : ifB RX2 P_RX2 [(32, 216), (37, 336), (41, 338), (50, 341), (54, 729)] = true := by decide +kernel
set_option maxRecDepth 100000 in
theorem if_RX3 : ifB RX3 P_RX3 [] = true := by decide +kernel
set_option maxRecDepth 100000 in
theorem if_RX4 : ifB RX4 P_RX4 [] = true := by decide +kernel
set_option maxRecDepth 100000 in
theorem if_RX5 : ifB RX5 P_RX5 [] = true := by decide +kernel
set_option maxRecDepth 100000 in
theorem if_RX6 : ifB RX6 P_RX6 [(73, 226), (78, 235), (110, 964), (112, 1010), (220, 1182), (250, 1235)] = true := by decide +kernel
set_option maxRecDepth 100000 in
theorem if_RX7 : ifB RX7 P_RX7 [] = true := by decide +kernel
