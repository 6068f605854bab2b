def RR (S : VX10) (M : VX11) : Prop := S = S ∧ M = M
theorem st_row {S : VX10} {M : VX11} (hR : RR S M) (v1 v2 : Int32) : ∃ r : Int32, ∃ S2 : VX10, ∃ M2 : VX11, f_X10_row S v1 v2 = some (r, S2) ∧ f_X11_row M v1 v2 = some (r, M2) ∧ RR S2 M2 := sorry
theorem st_lay {S : VX10} {M : VX11} (hR : RR S M) (v1 v2 v3 : Int32) : ∃ r : Int32, ∃ S2 : VX10, ∃ M2 : VX11, f_X10_lay S v1 v2 v3 = some (r, S2) ∧ f_X11_lay M v1 v2 v3 = some (r, M2) ∧ RR S2 M2 := sorry
theorem st_at {S : VX10} {M : VX11} (hR : RR S M) (v1 v2 : Int32) : ∃ r : Int32, ∃ S2 : VX10, ∃ M2 : VX11, f_X10_at S v1 v2 = some (r, S2) ∧ f_X11_at M v1 v2 = some (r, M2) ∧ RR S2 M2 := sorry
theorem st_tear {S : VX10} {M : VX11} (hR : RR S M) (v1 : Int32) : ∃ r : Int32, ∃ S2 : VX10, ∃ M2 : VX11, f_X10_tear S v1 = some (r, S2) ∧ f_X11_tear M v1 = some (r, M2) ∧ RR S2 M2 := sorry
theorem st_copy {S : VX10} {M : VX11} (hR : RR S M) (v1 v2 v3 v4 v5 : Int32) : ∃ r : Int32, ∃ S2 : VX10, ∃ M2 : VX11, f_X10_copy S v1 v2 v3 v4 v5 = some (r, S2) ∧ f_X11_copy M v1 v2 v3 v4 v5 = some (r, M2) ∧ RR S2 M2 := sorry
theorem st_mean {S : VX10} {M : VX11} (hR : RR S M) (v1 : Int32) : ∃ r : Int32, ∃ S2 : VX10, ∃ M2 : VX11, f_X10_mean S v1 = some (r, S2) ∧ f_X11_mean M v1 = some (r, M2) ∧ RR S2 M2 := sorry
theorem st_text {S : VX10} {M : VX11} (hR : RR S M) (v1 v2 : Int32) : ∃ r : Int32, ∃ S2 : VX10, ∃ M2 : VX11, f_X10_text S v1 v2 = some (r, S2) ∧ f_X11_text M v1 v2 = some (r, M2) ∧ RR S2 M2 := sorry
theorem st_put {S : VX10} {M : VX11} (hR : RR S M) (v1 v2 v3 : Int32) : ∃ r : Int32, ∃ S2 : VX10, ∃ M2 : VX11, f_X10_put S v1 v2 v3 = some (r, S2) ∧ f_X11_put M v1 v2 v3 = some (r, M2) ∧ RR S2 M2 := sorry
theorem st_fault {S : VX10} {M : VX11} (hR : RR S M) (v1 : Int32) : ∃ r : Int32, ∃ S2 : VX10, ∃ M2 : VX11, f_X10_fault S v1 = some (r, S2) ∧ f_X11_fault M v1 = some (r, M2) ∧ RR S2 M2 := sorry
theorem st_jail {S : VX10} {M : VX11} (hR : RR S M) (v1 : Int32) : ∃ r : Int32, ∃ S2 : VX10, ∃ M2 : VX11, f_X10_jail S v1 = some (r, S2) ∧ f_X11_jail M v1 = some (r, M2) ∧ RR S2 M2 := sorry
theorem st_door {S : VX10} {M : VX11} (hR : RR S M) (v1 v2 : Int32) : ∃ r : Int32, ∃ S2 : VX10, ∃ M2 : VX11, f_X10_door S v1 v2 = some (r, S2) ∧ f_X11_door M v1 v2 = some (r, M2) ∧ RR S2 M2 := sorry
theorem st_mark {S : VX10} {M : VX11} (hR : RR S M) (v1 v2 : Int32) : ∃ r : Int32, ∃ S2 : VX10, ∃ M2 : VX11, f_X10_mark S v1 v2 = some (r, S2) ∧ f_X11_mark M v1 v2 = some (r, M2) ∧ RR S2 M2 := sorry
theorem st_key {S : VX10} {M : VX11} (hR : RR S M) (v1 v2 : Int32) : ∃ r : Int32, ∃ S2 : VX10, ∃ M2 : VX11, f_X10_key S v1 v2 = some (r, S2) ∧ f_X11_key M v1 v2 = some (r, M2) ∧ RR S2 M2 := sorry
theorem st_quarrel {S : VX10} {M : VX11} (hR : RR S M) (v1 v2 v3 : Int32) : ∃ r : Int32, ∃ S2 : VX10, ∃ M2 : VX11, f_X10_quarrel S v1 v2 v3 = some (r, S2) ∧ f_X11_quarrel M v1 v2 v3 = some (r, M2) ∧ RR S2 M2 := sorry
theorem st_foes {S : VX10} {M : VX11} (hR : RR S M) (v1 : Int32) : ∃ r : Int32, f_X10_foes S v1 = some r ∧ f_X11_foes M v1 = some r ∧ RR S M := sorry
theorem st_can {S : VX10} {M : VX11} (hR : RR S M) (v1 : Int32) : ∃ r : Int32, f_X10_can S v1 = some r ∧ f_X11_can M v1 = some r ∧ RR S M := sorry
theorem st_let {S : VX10} {M : VX11} (hR : RR S M) (v1 : Int32) : ∃ r : Int32, ∃ S2 : VX10, ∃ M2 : VX11, f_X10_let S v1 = some (r, S2) ∧ f_X11_let M v1 = some (r, M2) ∧ RR S2 M2 := sorry
theorem st_out {S : VX10} {M : VX11} (hR : RR S M) : ∃ r : Int32, ∃ S2 : VX10, ∃ M2 : VX11, f_X10_out S = some (r, S2) ∧ f_X11_out M = some (r, M2) ∧ RR S2 M2 := sorry
theorem st_bell {S : VX10} {M : VX11} (hR : RR S M) : ∃ r : Int32, ∃ S2 : VX10, ∃ M2 : VX11, f_X10_bell S = some (r, S2) ∧ f_X11_bell M = some (r, M2) ∧ RR S2 M2 := sorry
theorem st_keep {S : VX10} {M : VX11} (hR : RR S M) (v1 : Int32) : ∃ r : Int32, ∃ S2 : VX10, ∃ M2 : VX11, f_X10_keep S v1 = some (r, S2) ∧ f_X11_keep M v1 = some (r, M2) ∧ RR S2 M2 := sorry
theorem st_on {S : VX10} {M : VX11} (hR : RR S M) (v1 : Int32) : ∃ r : Int32, ∃ S2 : VX10, ∃ M2 : VX11, f_X10_on S v1 = some (r, S2) ∧ f_X11_on M v1 = some (r, M2) ∧ RR S2 M2 := sorry
theorem st_lets {S : VX10} {M : VX11} (hR : RR S M) (v1 : Int32) : ∃ r : Int32, ∃ S2 : VX10, ∃ M2 : VX11, f_X10_lets S v1 = some (r, S2) ∧ f_X11_lets M v1 = some (r, M2) ∧ RR S2 M2 := sorry
theorem st_least {S : VX10} {M : VX11} (hR : RR S M) (v1 : Int32) : ∃ r : Int32, ∃ S2 : VX10, ∃ M2 : VX11, f_X10_least S v1 = some (r, S2) ∧ f_X11_least M v1 = some (r, M2) ∧ RR S2 M2 := sorry
theorem st_order {S : VX10} {M : VX11} (hR : RR S M) (v1 v2 : Int32) : ∃ r : Int32, ∃ S2 : VX10, ∃ M2 : VX11, f_X10_order S v1 v2 = some (r, S2) ∧ f_X11_order M v1 v2 = some (r, M2) ∧ RR S2 M2 := sorry
theorem st_reached {S : VX10} {M : VX11} (hR : RR S M) : ∃ r : Int32, ∃ S2 : VX10, ∃ M2 : VX11, f_X10_reached S = some (r, S2) ∧ f_X11_reached M = some (r, M2) ∧ RR S2 M2 := sorry
theorem st_most {S : VX10} {M : VX11} (hR : RR S M) : ∃ r : Int32, ∃ S2 : VX10, ∃ M2 : VX11, f_X10_most S = some (r, S2) ∧ f_X11_most M = some (r, M2) ∧ RR S2 M2 := sorry
theorem st_ever {S : VX10} {M : VX11} (hR : RR S M) : ∃ r : Int32, ∃ S2 : VX10, ∃ M2 : VX11, f_X10_ever S = some (r, S2) ∧ f_X11_ever M = some (r, M2) ∧ RR S2 M2 := sorry
theorem st_ways {S : VX10} {M : VX11} (hR : RR S M) (v1 : Int32) : ∃ r : Int32, ∃ S2 : VX10, ∃ M2 : VX11, f_X10_ways S v1 = some (r, S2) ∧ f_X11_ways M v1 = some (r, M2) ∧ RR S2 M2 := sorry
theorem st_ring {S : VX10} {M : VX11} (hR : RR S M) (v1 : Int32) : ∃ r : Int32, ∃ S2 : VX10, ∃ M2 : VX11, f_X10_ring S v1 = some (r, S2) ∧ f_X11_ring M v1 = some (r, M2) ∧ RR S2 M2 := sorry
theorem st_ill {S : VX10} {M : VX11} (hR : RR S M) (v1 : Int32) : ∃ r : Int32, ∃ S2 : VX10, ∃ M2 : VX11, f_X10_ill S v1 = some (r, S2) ∧ f_X11_ill M v1 = some (r, M2) ∧ RR S2 M2 := sorry
theorem st_without {S : VX10} {M : VX11} (hR : RR S M) (v1 : Int32) : ∃ r : Int32, ∃ S2 : VX10, ∃ M2 : VX11, f_X10_without S v1 = some (r, S2) ∧ f_X11_without M v1 = some (r, M2) ∧ RR S2 M2 := sorry
theorem st_band {S : VX10} {M : VX11} (hR : RR S M) (v1 : Int32) : ∃ r : Int32, ∃ S2 : VX10, ∃ M2 : VX11, f_X10_band S v1 = some (r, S2) ∧ f_X11_band M v1 = some (r, M2) ∧ RR S2 M2 := sorry
theorem st_bands {S : VX10} {M : VX11} (hR : RR S M) (v1 : Int32) : ∃ r : Int32, ∃ S2 : VX10, ∃ M2 : VX11, f_X10_bands S v1 = some (r, S2) ∧ f_X11_bands M v1 = some (r, M2) ∧ RR S2 M2 := sorry
theorem st_deals {S : VX10} {M : VX11} (hR : RR S M) (v1 v2 : Int32) : ∃ r : Int32, ∃ S2 : VX10, ∃ M2 : VX11, f_X10_deals S v1 v2 = some (r, S2) ∧ f_X11_deals M v1 v2 = some (r, M2) ∧ RR S2 M2 := sorry
theorem st_dealt {S : VX10} {M : VX11} (hR : RR S M) (v1 : Int32) : ∃ r : Int32, ∃ S2 : VX10, ∃ M2 : VX11, f_X10_dealt S v1 = some (r, S2) ∧ f_X11_dealt M v1 = some (r, M2) ∧ RR S2 M2 := sorry
theorem st_trades {S : VX10} {M : VX11} (hR : RR S M) : ∃ r : Int32, ∃ S2 : VX10, ∃ M2 : VX11, f_X10_trades S = some (r, S2) ∧ f_X11_trades M = some (r, M2) ∧ RR S2 M2 := sorry
theorem st_saw {S : VX10} {M : VX11} (hR : RR S M) (v1 v2 : Int32) : ∃ r : Int32, ∃ S2 : VX10, ∃ M2 : VX11, f_X10_saw S v1 v2 = some (r, S2) ∧ f_X11_saw M v1 v2 = some (r, M2) ∧ RR S2 M2 := sorry
theorem st_forget {S : VX10} {M : VX11} (hR : RR S M) (v1 : Int32) : ∃ r : Int32, ∃ S2 : VX10, ∃ M2 : VX11, f_X10_forget S v1 = some (r, S2) ∧ f_X11_forget M v1 = some (r, M2) ∧ RR S2 M2 := sorry
theorem st_culprits {S : VX10} {M : VX11} (hR : RR S M) (v1 : Int32) : ∃ r : Int32, ∃ S2 : VX10, ∃ M2 : VX11, f_X10_culprits S v1 = some (r, S2) ∧ f_X11_culprits M v1 = some (r, M2) ∧ RR S2 M2 := sorry
theorem st_odds {S : VX10} {M : VX11} (hR : RR S M) (v1 v2 : Int32) : ∃ r : Int32, ∃ S2 : VX10, ∃ M2 : VX11, f_X10_odds S v1 v2 = some (r, S2) ∧ f_X11_odds M v1 v2 = some (r, M2) ∧ RR S2 M2 := sorry
theorem st_asked {S : VX10} {M : VX11} (hR : RR S M) : ∃ r : Int32, f_X10_asked S = some r ∧ f_X11_asked M = some r ∧ RR S M := sorry
theorem st_upper {S : VX10} {M : VX11} (hR : RR S M) : ∃ r : Int64, f_X10_upper S = some r ∧ f_X11_upper M = some r ∧ RR S M := sorry
theorem st_lower {S : VX10} {M : VX11} (hR : RR S M) : ∃ r : Int64, f_X10_lower S = some r ∧ f_X11_lower M = some r ∧ RR S M := sorry
theorem st_count {S : VX10} {M : VX11} (hR : RR S M) (v1 : Int32) : ∃ r : Int32, f_X10_count S v1 = some r ∧ f_X11_count M v1 = some r ∧ RR S M := sorry
theorem st_finding {S : VX10} {M : VX11} (hR : RR S M) : ∃ r : Int32, f_X10_finding S = some r ∧ f_X11_finding M = some r ∧ RR S M := sorry
theorem st_findings {S : VX10} {M : VX11} (hR : RR S M) (v1 : Int32) : ∃ r : Int32, f_X10_findings S v1 = some r ∧ f_X11_findings M v1 = some r ∧ RR S M := sorry
theorem st_digest {S : VX10} {M : VX11} (hR : RR S M) : ∃ r : Int64, ∃ M2 : VX11, f_X10_digest S = some r ∧ f_X11_digest M = some (r, M2) ∧ RR S M2 := sorry
