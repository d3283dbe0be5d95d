theorem T_feed {σx σm : St_} (h : Inv_ σx σm) (x1 x2 x3 x4 x5 : Int32) : ∃ r σx2 σm2, fX5_feed x1 x2 x3 x4 x5 σx = some (r, σx2) ∧ fX6_feed x1 x2 x3 x4 x5 σm = some (r, σm2) ∧ Inv_ σx2 σm2 := sorry
theorem T_rules {σx σm : St_} (h : Inv_ σx σm) (x1 : Int32) : ∃ r σx2 σm2, fX5_rules x1 σx = some (r, σx2) ∧ fX6_rules x1 σm = some (r, σm2) ∧ Inv_ σx2 σm2 := sorry
theorem T_farm {σx σm : St_} (h : Inv_ σx σm) (x1 x2 : Int32) : ∃ r σx2 σm2, fX5_farm x1 x2 σx = some (r, σx2) ∧ fX6_farm x1 x2 σm = some (r, σm2) ∧ Inv_ σx2 σm2 := sorry
theorem T_buys {σx σm : St_} (h : Inv_ σx σm) (x1 x2 x3 : Int32) : ∃ r σx2 σm2, fX5_buys x1 x2 x3 σx = some (r, σx2) ∧ fX6_buys x1 x2 x3 σm = some (r, σm2) ∧ Inv_ σx2 σm2 := sorry
theorem T_weight {σx σm : St_} (h : Inv_ σx σm) (x1 x2 : Int32) : ∃ r σx2 σm2, fX5_weight x1 x2 σx = some (r, σx2) ∧ fX6_weight x1 x2 σm = some (r, σm2) ∧ Inv_ σx2 σm2 := sorry
theorem T_lay {σx σm : St_} (h : Inv_ σx σm)  : ∃ r σx2 σm2, fX5_lay  σx = some (r, σx2) ∧ fX6_lay  σm = some (r, σm2) ∧ Inv_ σx2 σm2 := sorry
theorem T_visitor {σx σm : St_} (h : Inv_ σx σm) (x1 x2 : Int32) : ∃ r, fX5_visitor x1 x2 σx = some r ∧ fX6_visitor x1 x2 σm = some r := sorry
theorem T_tells {σx σm : St_} (h : Inv_ σx σm) (x1 x2 x3 x4 : Int32) : ∃ r σx2 σm2, fX5_tells x1 x2 x3 x4 σx = some (r, σx2) ∧ fX6_tells x1 x2 x3 x4 σm = some (r, σm2) ∧ Inv_ σx2 σm2 := sorry
theorem T_breaches {σx σm : St_} (h : Inv_ σx σm) (x1 : Int32) : ∃ r, fX5_breaches x1 σx = some r ∧ fX6_breaches x1 σm = some r := sorry
theorem T_weighs {σx σm : St_} (h : Inv_ σx σm) (x1 : Int32) : ∃ r, fX5_weighs x1 σx = some r ∧ fX6_weighs x1 σm = some r := sorry
theorem T_vouches {σx σm : St_} (h : Inv_ σx σm) (x1 x2 : Int32) : ∃ r, fX5_vouches x1 x2 σx = some r ∧ fX6_vouches x1 x2 σm = some r := sorry
theorem T_trust {σx σm : St_} (h : Inv_ σx σm) (x1 x2 : Int32) : ∃ r σm2, fX5_trust x1 x2 σx = some r ∧ fX6_trust x1 x2 σm = some (r, σm2) ∧ Inv_ σx σm2 := sorry
theorem T_sell {σx σm : St_} (h : Inv_ σx σm) (x1 x2 : Int32) : ∃ r σx2 σm2, fX5_sell x1 x2 σx = some (r, σx2) ∧ fX6_sell x1 x2 σm = some (r, σm2) ∧ Inv_ σx2 σm2 := sorry
theorem T_year {σx σm : St_} (h : Inv_ σx σm)  : ∃ r σx2 σm2, fX5_year  σx = some (r, σx2) ∧ fX6_year  σm = some (r, σm2) ∧ Inv_ σx2 σm2 := sorry
theorem T_sealed {σx σm : St_} (h : Inv_ σx σm) (x1 : Int32) : ∃ r, fX5_sealed x1 σx = some r ∧ fX6_sealed x1 σm = some r := sorry
theorem T_barred {σx σm : St_} (h : Inv_ σx σm) (x1 x2 : Int32) : ∃ r, fX5_barred x1 x2 σx = some r ∧ fX6_barred x1 x2 σm = some r := sorry
theorem T_look {σx σm : St_} (h : Inv_ σx σm) (x1 x2 : Int32) : ∃ r, fX5_look x1 x2 σx = some r ∧ fX6_look x1 x2 σm = some r := sorry
theorem T_count {σx σm : St_} (h : Inv_ σx σm) (x1 : Int32) : ∃ r, fX5_count x1 σx = some r ∧ fX6_count x1 σm = some r := sorry
theorem T_initX : ∃ rx, fJ7_fill_53178_q11 1 sXi = some rx := sorry
theorem T_initM {rx : St_} (h : fJ7_fill_53178_q11 1 sXi = some rx) : ∃ rm, fX6_initT sMi = some rm ∧ Inv_ rx rm := sorry
