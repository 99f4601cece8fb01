theorem rr_0 : RR m0_RS m0_MO := sorry
