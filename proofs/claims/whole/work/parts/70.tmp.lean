def RR (C D : pm_M) : Prop := C 0 0 = D 0 0
theorem e_roof {C D : pm_M} (h : RR C D) (x1 : Int32) : ∃ (r : Int32) (C' D' : pm_M), f_X7_roof C x1 = some (r, C') ∧ f_X8_roof D x1 = some (r, D') ∧ RR C' D' := sorry
theorem e_ofRoof {C D : pm_M} (h : RR C D) (x1 : Int32) (x2 : Int32) : ∃ (r : Int32) (C' D' : pm_M), f_X7_ofRoof C x1 x2 = some (r, C') ∧ f_X8_ofRoof D x1 x2 = some (r, D') ∧ RR C' D' := sorry
theorem e_change {C D : pm_M} (h : RR C D) (x1 : Int32) (x2 : Int32) (x3 : Int32) : ∃ (r : Int32) (C' D' : pm_M), f_X7_change C x1 x2 x3 = some (r, C') ∧ f_X8_change D x1 x2 x3 = some (r, D') ∧ RR C' D' := sorry
theorem e_owe {C D : pm_M} (h : RR C D) (x1 : Int32) (x2 : Int32) (x3 : Int32) : ∃ (r : Int32) (C' D' : pm_M), f_X7_owe C x1 x2 x3 = some (r, C') ∧ f_X8_owe D x1 x2 x3 = some (r, D') ∧ RR C' D' := sorry
theorem e_owed {C D : pm_M} (h : RR C D) (x1 : Int32) (x2 : Int32) : ∃ (r : Int32) (C' D' : pm_M), f_X7_owed C x1 x2 = some (r, C') ∧ f_X8_owed D x1 x2 = some (r, D') ∧ RR C' D' := sorry
theorem e_pay {C D : pm_M} (h : RR C D) (x1 : Int32) (x2 : Int32) : ∃ (r : Int32) (C' D' : pm_M), f_X7_pay C x1 x2 = some (r, C') ∧ f_X8_pay D x1 x2 = some (r, D') ∧ RR C' D' := sorry
theorem e_sell {C D : pm_M} (h : RR C D) (x1 : Int32) (x2 : Int32) (x3 : Int32) : ∃ (r : Int32) (C' D' : pm_M), f_X7_sell C x1 x2 x3 = some (r, C') ∧ f_X8_sell D x1 x2 x3 = some (r, D') ∧ RR C' D' := sorry
theorem e_cloud {C D : pm_M} (h : RR C D) (x1 : Int32) (x2 : Int32) : ∃ (r : Int32) (C' D' : pm_M), f_X7_cloud C x1 x2 = some (r, C') ∧ f_X8_cloud D x1 x2 = some (r, D') ∧ RR C' D' := sorry
theorem e_ofCloud {C D : pm_M} (h : RR C D) (x1 : Int32) (x2 : Int32) : ∃ (r : Int32) (C' D' : pm_M), f_X7_ofCloud C x1 x2 = some (r, C') ∧ f_X8_ofCloud D x1 x2 = some (r, D') ∧ RR C' D' := sorry
theorem e_become {C D : pm_M} (h : RR C D) (x1 : Int32) (x2 : Int32) : ∃ (r : Int32) (C' D' : pm_M), f_X7_become C x1 x2 = some (r, C') ∧ f_X8_become D x1 x2 = some (r, D') ∧ RR C' D' := sorry
theorem e_as {C D : pm_M} (h : RR C D) (x1 : Int32) (x2 : Int32) : ∃ (r : Int32) (C' D' : pm_M), f_X7_as C x1 x2 = some (r, C') ∧ f_X8_as D x1 x2 = some (r, D') ∧ RR C' D' := sorry
theorem e_lead {C D : pm_M} (h : RR C D) (x1 : Int32) (x2 : Int32) (x3 : Int32) : ∃ (r : Int32) (C' D' : pm_M), f_X7_lead C x1 x2 x3 = some (r, C') ∧ f_X8_lead D x1 x2 x3 = some (r, D') ∧ RR C' D' := sorry
theorem e_feed {C D : pm_M} (h : RR C D) (x1 : Int64) (x2 : Int32) : ∃ (r : Int32) (C' D' : pm_M), f_X7_feed C x1 x2 = some (r, C') ∧ f_X8_feed D x1 x2 = some (r, D') ∧ RR C' D' := sorry
theorem e_text {C D : pm_M} (h : RR C D) (x1 : Int32) : ∃ (r : Int32) (C' D' : pm_M), f_X7_text C x1 = some (r, C') ∧ f_X8_text D x1 = some (r, D') ∧ RR C' D' := sorry
theorem e_law {C D : pm_M} (h : RR C D) (x1 : Int32) (x2 : Int32) (x3 : Int32) (x4 : Int32) : ∃ (r : Int32) (C' D' : pm_M), f_X7_law C x1 x2 x3 x4 = some (r, C') ∧ f_X8_law D x1 x2 x3 x4 = some (r, D') ∧ RR C' D' := sorry
theorem e_days {C D : pm_M} (h : RR C D) (x1 : Int32) : ∃ (r : Int32) (C' D' : pm_M), f_X7_days C x1 = some (r, C') ∧ f_X8_days D x1 = some (r, D') ∧ RR C' D' := sorry
theorem e_loose {C D : pm_M} (h : RR C D) (x1 : Int32) : ∃ (r : Int32) (C' D' : pm_M), f_X7_loose C x1 = some (r, C') ∧ f_X8_loose D x1 = some (r, D') ∧ RR C' D' := sorry
theorem e_clear {C D : pm_M} (h : RR C D)  : ∃ (r : Int32) (C' D' : pm_M), f_X7_clear C  = some (r, C') ∧ f_X8_clear D  = some (r, D') ∧ RR C' D' := sorry
theorem e_then {C D : pm_M} (h : RR C D) (x1 : Int32) (x2 : Int32) (x3 : Int32) : ∃ (r : Int32) (C' D' : pm_M), f_X7_then C x1 x2 x3 = some (r, C') ∧ f_X8_then D x1 x2 x3 = some (r, D') ∧ RR C' D' := sorry
theorem e_drought {C D : pm_M} (h : RR C D) (x1 : Int32) (x2 : Int32) : ∃ (r : Int32) (C' D' : pm_M), f_X7_drought C x1 x2 = some (r, C') ∧ f_X8_drought D x1 x2 = some (r, D') ∧ RR C' D' := sorry
theorem e_when {C D : pm_M} (h : RR C D) (x1 : Int32) (x2 : Int32) : ∃ (r : Int32) (C' D' : pm_M), f_X7_when C x1 x2 = some (r, C') ∧ f_X8_when D x1 x2 = some (r, D') ∧ RR C' D' := sorry
theorem e_sellers {C D : pm_M} (h : RR C D) (x1 : Int32) (x2 : Int32) : ∃ (r : Int32) (C' D' : pm_M), f_X7_sellers C x1 x2 = some (r, C') ∧ f_X8_sellers D x1 x2 = some (r, D') ∧ RR C' D' := sorry
theorem e_clears {C D : pm_M} (h : RR C D)  : ∃ (r : Int32) (C' D' : pm_M), f_X7_clears C  = some (r, C') ∧ f_X8_clears D  = some (r, D') ∧ RR C' D' := sorry
theorem e_patches {C D : pm_M} (h : RR C D) (x1 : Int32) : ∃ (r : Int32) (C' D' : pm_M), f_X7_patches C x1 = some (r, C') ∧ f_X8_patches D x1 = some (r, D') ∧ RR C' D' := sorry
theorem e_trades {C D : pm_M} (h : RR C D)  : ∃ (r : Int32) (C' D' : pm_M), f_X7_trades C  = some (r, C') ∧ f_X8_trades D  = some (r, D') ∧ RR C' D' := sorry
theorem e_fell {C D : pm_M} (h : RR C D) (x1 : Int32) (x2 : Int32) : ∃ (r : Int32) (C' D' : pm_M), f_X7_fell C x1 x2 = some (r, C') ∧ f_X8_fell D x1 x2 = some (r, D') ∧ RR C' D' := sorry
theorem e_gains {C D : pm_M} (h : RR C D) (x1 : Int32) (x2 : Int32) (x3 : Int32) : ∃ (r : Int32) (C' D' : pm_M), f_X7_gains C x1 x2 x3 = some (r, C') ∧ f_X8_gains D x1 x2 x3 = some (r, D') ∧ RR C' D' := sorry
theorem e_seed {C D : pm_M} (h : RR C D) (x1 : Int32) : ∃ (r : Int32) (C' D' : pm_M), f_X7_seed C x1 = some (r, C') ∧ f_X8_seed D x1 = some (r, D') ∧ RR C' D' := sorry
theorem e_voice {C D : pm_M} (h : RR C D) (x1 : Int32) (x2 : Int32) (x3 : Int32) : ∃ (r : Int32) (C' D' : pm_M), f_X7_voice C x1 x2 x3 = some (r, C') ∧ f_X8_voice D x1 x2 x3 = some (r, D') ∧ RR C' D' := sorry
theorem e_trace {C D : pm_M} (h : RR C D) (x1 : Int32) : ∃ (r : Int32) (C' D' : pm_M), f_X7_trace C x1 = some (r, C') ∧ f_X8_trace D x1 = some (r, D') ∧ RR C' D' := sorry
theorem e_sheet {C D : pm_M} (h : RR C D) (x1 : Int32) (x2 : Int32) (x3 : Int32) : ∃ (r : Int32) (C' D' : pm_M), f_X7_sheet C x1 x2 x3 = some (r, C') ∧ f_X8_sheet D x1 x2 x3 = some (r, D') ∧ RR C' D' := sorry
theorem e_put {C D : pm_M} (h : RR C D) (x1 : Int32) (x2 : Int32) (x3 : Int32) : ∃ (r : Int32) (C' D' : pm_M), f_X7_put C x1 x2 x3 = some (r, C') ∧ f_X8_put D x1 x2 x3 = some (r, D') ∧ RR C' D' := sorry
theorem e_move {C D : pm_M} (h : RR C D) (x1 : Int32) (x2 : Int32) (x3 : Int32) (x4 : Int32) (x5 : Int32) : ∃ (r : Int32) (C' D' : pm_M), f_X7_move C x1 x2 x3 x4 x5 = some (r, C') ∧ f_X8_move D x1 x2 x3 x4 x5 = some (r, D') ∧ RR C' D' := sorry
theorem e_shares {C D : pm_M} (h : RR C D) (x1 : Int32) : ∃ (r : Int32) (C' D' : pm_M), f_X7_shares C x1 = some (r, C') ∧ f_X8_shares D x1 = some (r, D') ∧ RR C' D' := sorry
theorem e_judge {C D : pm_M} (h : RR C D) (x1 : Int32) : ∃ (r : Int32) (C' D' : pm_M), f_X7_judge C x1 = some (r, C') ∧ f_X8_judge D x1 = some (r, D') ∧ RR C' D' := sorry
theorem e_image {C D : pm_M} (h : RR C D)  : ∃ (r : Int32) (C' D' : pm_M), f_X7_image C  = some (r, C') ∧ f_X8_image D  = some (r, D') ∧ RR C' D' := sorry
theorem e_restore {C D : pm_M} (h : RR C D)  : ∃ (r : Int32) (C' D' : pm_M), f_X7_restore C  = some (r, C') ∧ f_X8_restore D  = some (r, D') ∧ RR C' D' := sorry
theorem e_tell {C D : pm_M} (h : RR C D) (x1 : Int32) : ∃ (r : Int32) (C' D' : pm_M), f_X7_tell C x1 = some (r, C') ∧ f_X8_tell D x1 = some (r, D') ∧ RR C' D' := sorry
theorem e_check {C D : pm_M} (h : RR C D)  : ∃ (r : Int32) (C' D' : pm_M), f_X7_check C  = some (r, C') ∧ f_X8_check D  = some (r, D') ∧ RR C' D' := sorry
theorem e_count {C D : pm_M} (h : RR C D) (x1 : Int32) : ∃ (r : Int32) (C' D' : pm_M), f_X7_count C x1 = some (r, C') ∧ f_X8_count D x1 = some (r, D') ∧ RR C' D' := sorry
theorem e_told {C D : pm_M} (h : RR C D) (x1 : Int32) : ∃ (r : Int32) (C' D' : pm_M), f_X7_told C x1 = some (r, C') ∧ f_X8_told D x1 = some (r, D') ∧ RR C' D' := sorry
