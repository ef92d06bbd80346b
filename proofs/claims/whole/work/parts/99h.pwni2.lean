theorem pn_p0 : lall 192 159 (2 ^ 140) (2 ^ 110) (pn_G false) (pn_row false) pn_one 1000 1208927028541053252446645707737711 = true := by decide +kernel
theorem pn_p0h : pn_hd false 0 = 1208927028541053252446645707737711 := by decide +kernel
theorem pn_p1 : lall 192 159 (2 ^ 140) (2 ^ 110) (pn_G false) (pn_row false) pn_one 1000 72655799366758597973871149769322061 = true := by decide +kernel
theorem pn_p1h : pn_hd false 1000 = 72655799366758597973871149769322061 := by decide +kernel
theorem pn_p2 : lall 192 159 (2 ^ 140) (2 ^ 110) (pn_G false) (pn_row false) pn_one 1000 4366570567946746144308442280052885749 = true := by decide +kernel
theorem pn_p2h : pn_hd false 2000 = 4366570567946746144308442280052885749 := by decide +kernel
theorem pn_p3 : lall 192 159 (2 ^ 140) (2 ^ 110) (pn_G false) (pn_row false) pn_one 1000 262428308421891151740618036107605914445 = true := by decide +kernel
theorem pn_p3h : pn_hd false 3000 = 262428308421891151740618036107605914445 := by decide +kernel
theorem pn_p4 : lall 192 159 (2 ^ 140) (2 ^ 110) (pn_G false) (pn_row false) pn_one 883 15771786116709595983053583034406694688711 = true := by decide +kernel
theorem pn_p4h : pn_hd false 4000 = 15771786116709595983053583034406694688711 := by decide +kernel
theorem pn_n0 : lall 192 159 (2 ^ 140) (2 ^ 110) (pn_G true) (pn_row true) pn_one 1000 1208924610689414022785321022180814 = true := by decide +kernel
theorem pn_n0h : pn_hd true 0 = 1208924610689414022785321022180814 := by decide +kernel
theorem pn_n1 : lall 192 159 (2 ^ 140) (2 ^ 110) (pn_G true) (pn_row true) pn_one 1000 20115416113631908537775905049095 = true := by decide +kernel
theorem pn_n1h : pn_hd true 1000 = 20115416113631908537775905049095 := by decide +kernel
theorem pn_n2 : lall 192 159 (2 ^ 140) (2 ^ 110) (pn_G true) (pn_row true) pn_one 1000 334702397359429806739878689337 = true := by decide +kernel
theorem pn_n2h : pn_hd true 2000 = 334702397359429806739878689337 := by decide +kernel
theorem pn_n3 : lall 192 159 (2 ^ 140) (2 ^ 110) (pn_G true) (pn_row true) pn_one 1000 5569146278919457806275904998 = true := by decide +kernel
theorem pn_n3h : pn_hd true 3000 = 5569146278919457806275904998 := by decide +kernel
theorem pn_n4 : lall 192 159 (2 ^ 140) (2 ^ 110) (pn_G true) (pn_row true) pn_one 883 92665575510341126797854448 = true := by decide +kernel
theorem pn_n4h : pn_hd true 4000 = 92665575510341126797854448 := by decide +kernel
