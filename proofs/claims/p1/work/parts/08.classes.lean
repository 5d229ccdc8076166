theorem cl_mem {R : String} {T : u_T} {n : Nat} (ixs : List Nat) (h : (List.range n).all (fun k => decide (tables_1[ixs.getD k 0]? = some (u_lay R T k)) && goodWord (u_lay R T k)) = true) : ∀ w ∈ u_ws R T n, w ∈ gtb := fun w hw => by
  obtain ⟨k, hk, rfl⟩ := List.mem_map.mp hw
  have h1 := List.all_eq_true.mp h k hk
  rw [Bool.and_eq_true, decide_eq_true_eq] at h1
  exact gtb_in (List.mem_of_getElem? h1.1) h1.2
set_option maxRecDepth 20000 in
theorem cl_0 : CL 0 RX0 TX0 := ⟨rfl, cl_mem [1546, 1548, 1550, 1552, 1554, 1556, 1558] (by decide +kernel), tyX0_ok, nmX0, by decide⟩
theorem iw_0 : Cond.instantiable RX0 (fnum 0) ∈ gtb := (gtb_in (List.mem_of_getElem? (i := 1527) (by decide +kernel)) (by decide +kernel))
theorem zw_0 : Cond.initialized RX0 ∈ gtb := (gtb_in (List.mem_of_getElem? (i := 30) (by decide +kernel)) (by decide +kernel))
theorem ao_0 : Cond.arrayOver (.object RX0) ∈ tables_1 := (List.mem_of_getElem? (i := 276) (by decide +kernel))
set_option maxRecDepth 20000 in
theorem cl_1 : CL 1 RX1 TX1 := ⟨rfl, cl_mem [1228, 1230, 1232] (by decide +kernel), tyX1_ok, nmX1, by decide⟩
theorem iw_1 : Cond.instantiable RX1 (fnum 1) ∈ gtb := (gtb_in (List.mem_of_getElem? (i := 1211) (by decide +kernel)) (by decide +kernel))
theorem zw_1 : Cond.initialized RX1 ∈ gtb := (gtb_in (List.mem_of_getElem? (i := 22) (by decide +kernel)) (by decide +kernel))
theorem ao_1 : Cond.arrayOver (.object RX1) ∈ tables_1 := (List.mem_of_getElem? (i := 332) (by decide +kernel))
set_option maxRecDepth 20000 in
theorem cl_2 : CL 2 RX2 TX2 := ⟨rfl, cl_mem [184, 186, 188, 190, 192] (by decide +kernel), tyX2_ok, nmX2, by decide⟩
theorem iw_2 : Cond.instantiable RX2 (fnum 2) ∈ gtb := (gtb_in (List.mem_of_getElem? (i := 168) (by decide +kernel)) (by decide +kernel))
theorem zw_2 : Cond.initialized RX2 ∈ gtb := (gtb_in (List.mem_of_getElem? (i := 6) (by decide +kernel)) (by decide +kernel))
set_option maxRecDepth 20000 in
theorem cl_3 : CL 3 RX3 TX3 := ⟨rfl, cl_mem [284, 286, 288, 290, 292, 294] (by decide +kernel), tyX3_ok, nmX3, by decide⟩
theorem iw_3 : Cond.instantiable RX3 (fnum 3) ∈ gtb := (gtb_in (List.mem_of_getElem? (i := 270) (by decide +kernel)) (by decide +kernel))
theorem zw_3 : Cond.initialized RX3 ∈ gtb := (gtb_in (List.mem_of_getElem? (i := 8) (by decide +kernel)) (by decide +kernel))
set_option maxRecDepth 20000 in
theorem cl_4 : CL 4 RX4 TX4 := ⟨rfl, cl_mem [1103, 1105, 1107, 1109, 1111, 1113, 1115, 1117, 1119] (by decide +kernel), tyX4_ok, nmX4, by decide⟩
theorem iw_4 : Cond.instantiable RX4 (fnum 4) ∈ gtb := (gtb_in (List.mem_of_getElem? (i := 1063) (by decide +kernel)) (by decide +kernel))
theorem zw_4 : Cond.initialized RX4 ∈ gtb := (gtb_in (List.mem_of_getElem? (i := 16) (by decide +kernel)) (by decide +kernel))
theorem ao_4 : Cond.arrayOver (.object RX4) ∈ tables_1 := (List.mem_of_getElem? (i := 46) (by decide +kernel))
set_option maxRecDepth 20000 in
theorem cl_5 : CL 5 RX5 TX5 := ⟨rfl, cl_mem [67, 69, 71, 73, 75, 77, 79, 81, 83, 85, 87, 89, 91, 93, 95, 97, 99] (by decide +kernel), tyX5_ok, nmX5, by decide⟩
theorem iw_5 : Cond.instantiable RX5 (fnum 5) ∈ gtb := (gtb_in (List.mem_of_getElem? (i := 40) (by decide +kernel)) (by decide +kernel))
theorem zw_5 : Cond.initialized RX5 ∈ gtb := (gtb_in (List.mem_of_getElem? (i := 2) (by decide +kernel)) (by decide +kernel))
set_option maxRecDepth 20000 in
theorem cl_6 : CL 6 RX6 TX6 := ⟨rfl, cl_mem [346, 348, 350, 352] (by decide +kernel), tyX6_ok, nmX6, by decide⟩
theorem iw_6 : Cond.instantiable RX6 (fnum 6) ∈ gtb := (gtb_in (List.mem_of_getElem? (i := 322) (by decide +kernel)) (by decide +kernel))
theorem zw_6 : Cond.initialized RX6 ∈ gtb := (gtb_in (List.mem_of_getElem? (i := 10) (by decide +kernel)) (by decide +kernel))
theorem ao_6 : Cond.arrayOver (.object RX6) ∈ tables_1 := (List.mem_of_getElem? (i := 174) (by decide +kernel))
set_option maxRecDepth 20000 in
theorem cl_7 : CL 7 RX7 TX7 := ⟨rfl, cl_mem [310, 312, 314, 316] (by decide +kernel), tyX7_ok, nmX7, by decide⟩
theorem iw_7 : Cond.instantiable RX7 (fnum 7) ∈ gtb := (gtb_in (List.mem_of_getElem? (i := 298) (by decide +kernel)) (by decide +kernel))
theorem zw_7 : Cond.initialized RX7 ∈ gtb := (gtb_in (List.mem_of_getElem? (i := 9) (by decide +kernel)) (by decide +kernel))
set_option maxRecDepth 20000 in
theorem cl_8 : CL 8 RX8 TX8 := ⟨rfl, cl_mem [135, 137, 139, 141] (by decide +kernel), tyX8_ok, nmX8, by decide⟩
theorem iw_8 : Cond.instantiable RX8 (fnum 8) ∈ gtb := (gtb_in (List.mem_of_getElem? (i := 110) (by decide +kernel)) (by decide +kernel))
theorem zw_8 : Cond.initialized RX8 ∈ gtb := (gtb_in (List.mem_of_getElem? (i := 4) (by decide +kernel)) (by decide +kernel))
theorem ao_8 : Cond.arrayOver (.object RX8) ∈ tables_1 := (List.mem_of_getElem? (i := 203) (by decide +kernel))
set_option maxRecDepth 20000 in
theorem cl_9 : CL 9 RX9 TX9 := ⟨rfl, cl_mem [226, 228, 230, 232, 234, 236, 238, 240, 242, 244, 246, 248, 250, 252, 254, 256, 258, 260, 262, 264, 266] (by decide +kernel), tyX9_ok, nmX9, by decide⟩
theorem iw_9 : Cond.instantiable RX9 (fnum 9) ∈ gtb := (gtb_in (List.mem_of_getElem? (i := 197) (by decide +kernel)) (by decide +kernel))
theorem zw_9 : Cond.initialized RX9 ∈ gtb := (gtb_in (List.mem_of_getElem? (i := 7) (by decide +kernel)) (by decide +kernel))
set_option maxRecDepth 20000 in
theorem cl_10 : CL 10 RX10 TX10 := ⟨rfl, cl_mem [152, 154, 156, 158, 160, 162, 164] (by decide +kernel), tyX10_ok, nmX10, by decide⟩
theorem iw_10 : Cond.instantiable RX10 (fnum 10) ∈ gtb := (gtb_in (List.mem_of_getElem? (i := 104) (by decide +kernel)) (by decide +kernel))
theorem zw_10 : Cond.initialized RX10 ∈ gtb := (gtb_in (List.mem_of_getElem? (i := 3) (by decide +kernel)) (by decide +kernel))
set_option maxRecDepth 20000 in
theorem cl_11 : CL 11 RX11 TX11 := ⟨rfl, cl_mem [387, 389, 391, 393, 395, 397, 399, 401, 403, 405, 407, 409, 411, 413, 415, 417, 419, 421] (by decide +kernel), tyX11_ok, nmX11, by decide⟩
theorem iw_11 : Cond.instantiable RX11 (fnum 11) ∈ gtb := (gtb_in (List.mem_of_getElem? (i := 32) (by decide +kernel)) (by decide +kernel))
theorem zw_11 : Cond.initialized RX11 ∈ gtb := (gtb_in (List.mem_of_getElem? (i := 1) (by decide +kernel)) (by decide +kernel))
set_option maxRecDepth 20000 in
theorem cl_12 : CL 12 RX12 TX12 := ⟨rfl, cl_mem [1750, 1752, 1754, 1756, 1758, 1760, 1762, 1764, 1766, 1768, 1770, 1772, 1774, 1776, 1778, 1780, 1782, 1784, 1786, 1788, 1790, 1792, 1794, 1796, 1798, 1800, 1802, 1804, 1806, 1808, 1810, 1812, 1814, 1816, 1818, 1820, 1822, 1824, 1826, 1828, 1830, 1832, 1834, 1836, 1838, 1840, 1842, 1844, 1846, 1848, 1850, 1852, 1854, 1856, 1858, 1860, 1862, 1864, 1866, 1868, 1870, 1872, 1874, 1876, 1878, 1880, 1882, 1884, 1886, 1888, 1890, 1892, 1894, 1896, 1898, 1900, 1902, 1904, 1906, 1908, 1910, 1912, 1914, 1916, 1918, 1920, 1922, 1924, 1926, 1928, 1930, 1932, 1934, 1936, 1938, 1940, 1942, 1944, 1946, 1948, 1950, 1952, 1954, 1956, 1958] (by decide +kernel), tyX12_ok, nmX12, by decide⟩
theorem iw_12 : Cond.instantiable RX12 (fnum 12) ∈ gtb := (gtb_in (List.mem_of_getElem? (i := 1632) (by decide +kernel)) (by decide +kernel))
theorem zw_12 : Cond.initialized RX12 ∈ gtb := (gtb_in (List.mem_of_getElem? (i := 11) (by decide +kernel)) (by decide +kernel))
theorem ac_byte : Cond.arrayClass .byte ∈ gtb := (gtb_in (List.mem_of_getElem? (i := 102) (by decide +kernel)) (by decide +kernel))
theorem ac_int : Cond.arrayClass .int ∈ gtb := (gtb_in (List.mem_of_getElem? (i := 144) (by decide +kernel)) (by decide +kernel))
theorem ac_long : Cond.arrayClass .long ∈ gtb := (gtb_in (List.mem_of_getElem? (i := 195) (by decide +kernel)) (by decide +kernel))
theorem ac_boolean : Cond.arrayClass .boolean ∈ gtb := (gtb_in (List.mem_of_getElem? (i := 1961) (by decide +kernel)) (by decide +kernel))
theorem zw_L : Cond.initialized RL ∈ gtb := (gtb_in (List.mem_of_getElem? (i := 0) (by decide +kernel)) (by decide +kernel))
theorem ob_1 : Cond.instanceMethod objectInit ∈ gtb := (gtb_in (List.mem_of_getElem? (i := 37) (by decide +kernel)) (by decide +kernel))
theorem ob_2 : Cond.code objectInit ⟨#[0xb1]⟩ 1 none ∈ gtb := (gtb_in (List.mem_of_getElem? (i := 38) (by decide +kernel)) (by decide +kernel))
