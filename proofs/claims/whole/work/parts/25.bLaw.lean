set_option maxRecDepth 20000 in
theorem bL_law_18 {G : Gl} {l : Launch} {d : Nat} {S : Sg} {P : Int32 → Sg → Prop} (i3 : Int32)
    (h : (((nI (gL G)) - (nI 6)) < i3 → P (nI 1) S) ∧ (¬ (((nI (gL G)) - (nI 6)) < i3) → ∃ n29 : Nat, ix i3 n29 (gL G) ∧ ((((gX G n29) &&& (nI 63)) = nI 0 → ∃ n221 : Nat, ix (i3 + (nI 1)) n221 (gL G) ∧ (∃ n226 : Nat, ix (i3 + (nI 2)) n226 (gL G) ∧ (Ct G l mX4_row d [.ref 0, .int (gX G n221), .int (gX G n226)] S (QI (fun r227 T227 => Ct G l mX5_row d [.ref 7, .int (gX G n221), .int (gX G n226)] T227 (QI (fun r241 T241 => (r227 = r241 → Ev G l mL_law (d + 1) 18 [some (.ref 201), some (.ref 0), some (.ref 7), some (.int (i3 + (nI 6)))] [] T241 (QI P)) ∧ (¬ (r227 = r241) → P (nI 0) T241)))))))) ∧ (¬ ((gX G n29) &&& (nI 63)) = nI 0 → (((gX G n29) &&& (nI 63)) = nI 1 → ∃ n254 : Nat, ix (i3 + (nI 1)) n254 (gL G) ∧ (∃ n259 : Nat, ix (i3 + (nI 2)) n259 (gL G) ∧ (∃ n264 : Nat, ix (i3 + (nI 3)) n264 (gL G) ∧ (Ct G l mX4_lay d [.ref 0, .int (gX G n254), .int (gX G n259), .int (gX G n264)] S (QI (fun r265 T265 => Ct G l mX5_lay d [.ref 7, .int (gX G n254), .int (gX G n259), .int (gX G n264)] T265 (QI (fun r284 T284 => (r265 = r284 → Ev G l mL_law (d + 1) 18 [some (.ref 201), some (.ref 0), some (.ref 7), some (.int (i3 + (nI 6)))] [] T284 (QI P)) ∧ (¬ (r265 = r284) → P (nI 0) T284))))))))) ∧ (¬ ((gX G n29) &&& (nI 63)) = nI 1 → (((gX G n29) &&& (nI 63)) = nI 2 → ∃ n297 : Nat, ix (i3 + (nI 1)) n297 (gL G) ∧ (∃ n302 : Nat, ix (i3 + (nI 2)) n302 (gL G) ∧ (Ct G l mX4_at d [.ref 0, .int (gX G n297), .int (gX G n302)] S (QI (fun r303 T303 => Ct G l mX5_at d [.ref 7, .int (gX G n297), .int (gX G n302)] T303 (QI (fun r317 T317 => (r303 = r317 → Ev G l mL_law (d + 1) 18 [some (.ref 201), some (.ref 0), some (.ref 7), some (.int (i3 + (nI 6)))] [] T317 (QI P)) ∧ (¬ (r303 = r317) → P (nI 0) T317)))))))) ∧ (¬ ((gX G n29) &&& (nI 63)) = nI 2 → (((gX G n29) &&& (nI 63)) = nI 3 → ∃ n330 : Nat, ix (i3 + (nI 1)) n330 (gL G) ∧ (Ct G l mX4_tear d [.ref 0, .int (gX G n330)] S (QI (fun r331 T331 => Ct G l mX5_tear d [.ref 7, .int (gX G n330)] T331 (QI (fun r340 T340 => (r331 = r340 → Ev G l mL_law (d + 1) 18 [some (.ref 201), some (.ref 0), some (.ref 7), some (.int (i3 + (nI 6)))] [] T340 (QI P)) ∧ (¬ (r331 = r340) → P (nI 0) T340))))))) ∧ (¬ ((gX G n29) &&& (nI 63)) = nI 3 → (((gX G n29) &&& (nI 63)) = nI 4 → ∃ n353 : Nat, ix (i3 + (nI 1)) n353 (gL G) ∧ (∃ n358 : Nat, ix (i3 + (nI 2)) n358 (gL G) ∧ (∃ n363 : Nat, ix (i3 + (nI 3)) n363 (gL G) ∧ (∃ n368 : Nat, ix (i3 + (nI 4)) n368 (gL G) ∧ (∃ n373 : Nat, ix (i3 + (nI 5)) n373 (gL G) ∧ (Ct G l mX4_copy d [.ref 0, .int (gX G n353), .int (gX G n358), .int (gX G n363), .int (gX G n368), .int (gX G n373)] S (QI (fun r374 T374 => Ct G l mX5_copy d [.ref 7, .int (gX G n353), .int (gX G n358), .int (gX G n363), .int (gX G n368), .int (gX G n373)] T374 (QI (fun r403 T403 => (r374 = r403 → Ev G l mL_law (d + 1) 18 [some (.ref 201), some (.ref 0), some (.ref 7), some (.int (i3 + (nI 6)))] [] T403 (QI P)) ∧ (¬ (r374 = r403) → P (nI 0) T403))))))))))) ∧ (¬ ((gX G n29) &&& (nI 63)) = nI 4 → (((gX G n29) &&& (nI 63)) = nI 5 → ∃ n416 : Nat, ix (i3 + (nI 1)) n416 (gL G) ∧ (Ct G l mX4_mean d [.ref 0, .int (gX G n416)] S (QI (fun r417 T417 => Ct G l mX5_mean d [.ref 7, .int (gX G n416)] T417 (QI (fun r426 T426 => (r417 = r426 → Ev G l mL_law (d + 1) 18 [some (.ref 201), some (.ref 0), some (.ref 7), some (.int (i3 + (nI 6)))] [] T426 (QI P)) ∧ (¬ (r417 = r426) → P (nI 0) T426))))))) ∧ (¬ ((gX G n29) &&& (nI 63)) = nI 5 → (((gX G n29) &&& (nI 63)) = nI 6 → ∃ n439 : Nat, ix (i3 + (nI 1)) n439 (gL G) ∧ (∃ n444 : Nat, ix (i3 + (nI 2)) n444 (gL G) ∧ (Ct G l mX4_text d [.ref 0, .int (gX G n439), .int (gX G n444)] S (QI (fun r445 T445 => Ct G l mX5_text d [.ref 7, .int (gX G n439), .int (gX G n444)] T445 (QI (fun r459 T459 => (r445 = r459 → Ev G l mL_law (d + 1) 18 [some (.ref 201), some (.ref 0), some (.ref 7), some (.int (i3 + (nI 6)))] [] T459 (QI P)) ∧ (¬ (r445 = r459) → P (nI 0) T459)))))))) ∧ (¬ ((gX G n29) &&& (nI 63)) = nI 6 → (((gX G n29) &&& (nI 63)) = nI 7 → ∃ n472 : Nat, ix (i3 + (nI 1)) n472 (gL G) ∧ (∃ n477 : Nat, ix (i3 + (nI 2)) n477 (gL G) ∧ (∃ n482 : Nat, ix (i3 + (nI 3)) n482 (gL G) ∧ (Ct G l mX4_put d [.ref 0, .int (gX G n472), .int (gX G n477), .int (gX G n482)] S (QI (fun r483 T483 => Ct G l mX5_put d [.ref 7, .int (gX G n472), .int (gX G n477), .int (gX G n482)] T483 (QI (fun r502 T502 => (r483 = r502 → Ev G l mL_law (d + 1) 18 [some (.ref 201), some (.ref 0), some (.ref 7), some (.int (i3 + (nI 6)))] [] T502 (QI P)) ∧ (¬ (r483 = r502) → P (nI 0) T502))))))))) ∧ (¬ ((gX G n29) &&& (nI 63)) = nI 7 → (((gX G n29) &&& (nI 63)) = nI 8 → ∃ n515 : Nat, ix (i3 + (nI 1)) n515 (gL G) ∧ (Ct G l mX4_fault d [.ref 0, .int (gX G n515)] S (QI (fun r516 T516 => Ct G l mX5_fault d [.ref 7, .int (gX G n515)] T516 (QI (fun r525 T525 => (r516 = r525 → Ev G l mL_law (d + 1) 18 [some (.ref 201), some (.ref 0), some (.ref 7), some (.int (i3 + (nI 6)))] [] T525 (QI P)) ∧ (¬ (r516 = r525) → P (nI 0) T525))))))) ∧ (¬ ((gX G n29) &&& (nI 63)) = nI 8 → (((gX G n29) &&& (nI 63)) = nI 9 → ∃ n538 : Nat, ix (i3 + (nI 1)) n538 (gL G) ∧ (Ct G l mX4_land d [.ref 0, .int (gX G n538)] S (QI (fun r539 T539 => Ct G l mX5_land d [.ref 7, .int (gX G n538)] T539 (QI (fun r548 T548 => (r539 = r548 → Ev G l mL_law (d + 1) 18 [some (.ref 201), some (.ref 0), some (.ref 7), some (.int (i3 + (nI 6)))] [] T548 (QI P)) ∧ (¬ (r539 = r548) → P (nI 0) T548))))))) ∧ (¬ ((gX G n29) &&& (nI 63)) = nI 9 → (((gX G n29) &&& (nI 63)) = nI 10 → ∃ n561 : Nat, ix (i3 + (nI 1)) n561 (gL G) ∧ (∃ n566 : Nat, ix (i3 + (nI 2)) n566 (gL G) ∧ (Ct G l mX4_one d [.ref 0, .int (gX G n561), .int (gX G n566)] S (QI (fun r567 T567 => Ct G l mX5_one d [.ref 7, .int (gX G n561), .int (gX G n566)] T567 (QI (fun r581 T581 => (r567 = r581 → Ev G l mL_law (d + 1) 18 [some (.ref 201), some (.ref 0), some (.ref 7), some (.int (i3 + (nI 6)))] [] T581 (QI P)) ∧ (¬ (r567 = r581) → P (nI 0) T581)))))))) ∧ (¬ ((gX G n29) &&& (nI 63)) = nI 10 → (((gX G n29) &&& (nI 63)) = nI 11 → ∃ n594 : Nat, ix (i3 + (nI 1)) n594 (gL G) ∧ (∃ n599 : Nat, ix (i3 + (nI 2)) n599 (gL G) ∧ (Ct G l mX4_mark d [.ref 0, .int (gX G n594), .int (gX G n599)] S (QI (fun r600 T600 => Ct G l mX5_mark d [.ref 7, .int (gX G n594), .int (gX G n599)] T600 (QI (fun r614 T614 => (r600 = r614 → Ev G l mL_law (d + 1) 18 [some (.ref 201), some (.ref 0), some (.ref 7), some (.int (i3 + (nI 6)))] [] T614 (QI P)) ∧ (¬ (r600 = r614) → P (nI 0) T614)))))))) ∧ (¬ ((gX G n29) &&& (nI 63)) = nI 11 → (((gX G n29) &&& (nI 63)) = nI 12 → ∃ n627 : Nat, ix (i3 + (nI 1)) n627 (gL G) ∧ (Ct G l mX4_coast d [.ref 0, .int (gX G n627)] S (QI (fun r628 T628 => Ct G l mX5_coast d [.ref 7, .int (gX G n627)] T628 (QI (fun r637 T637 => (r628 = r637 → Ev G l mL_law (d + 1) 18 [some (.ref 201), some (.ref 0), some (.ref 7), some (.int (i3 + (nI 6)))] [] T637 (QI P)) ∧ (¬ (r628 = r637) → P (nI 0) T637))))))) ∧ (¬ ((gX G n29) &&& (nI 63)) = nI 12 → (((gX G n29) &&& (nI 63)) = nI 13 → Ct G l mX4_year d [.ref 0] S (QI (fun r646 T646 => Ct G l mX5_year d [.ref 7] T646 (QI (fun r650 T650 => (r646 = r650 → Ev G l mL_law (d + 1) 18 [some (.ref 201), some (.ref 0), some (.ref 7), some (.int (i3 + (nI 6)))] [] T650 (QI P)) ∧ (¬ (r646 = r650) → P (nI 0) T650)))))) ∧ (¬ ((gX G n29) &&& (nI 63)) = nI 13 → (((gX G n29) &&& (nI 63)) = nI 14 → ∃ n663 : Nat, ix (i3 + (nI 1)) n663 (gL G) ∧ (∃ n668 : Nat, ix (i3 + (nI 2)) n668 (gL G) ∧ (Ct G l mX4_step d [.ref 0, .int (gX G n663), .int (gX G n668)] S (QI (fun r669 T669 => Ct G l mX5_step d [.ref 7, .int (gX G n663), .int (gX G n668)] T669 (QI (fun r683 T683 => (r669 = r683 → Ev G l mL_law (d + 1) 18 [some (.ref 201), some (.ref 0), some (.ref 7), some (.int (i3 + (nI 6)))] [] T683 (QI P)) ∧ (¬ (r669 = r683) → P (nI 0) T683)))))))) ∧ (¬ ((gX G n29) &&& (nI 63)) = nI 14 → (((gX G n29) &&& (nI 63)) = nI 15 → ∃ n696 : Nat, ix (i3 + (nI 1)) n696 (gL G) ∧ (∃ n701 : Nat, ix (i3 + (nI 2)) n701 (gL G) ∧ (Ct G l mX4_walk d [.ref 0, .int (gX G n696), .int (gX G n701)] S (QI (fun r702 T702 => Ct G l mX5_walk d [.ref 7, .int (gX G n696), .int (gX G n701)] T702 (QI (fun r716 T716 => (r702 = r716 → Ev G l mL_law (d + 1) 18 [some (.ref 201), some (.ref 0), some (.ref 7), some (.int (i3 + (nI 6)))] [] T716 (QI P)) ∧ (¬ (r702 = r716) → P (nI 0) T716)))))))) ∧ (¬ ((gX G n29) &&& (nI 63)) = nI 15 → (((gX G n29) &&& (nI 63)) = nI 16 → ∃ n729 : Nat, ix (i3 + (nI 1)) n729 (gL G) ∧ (Ct G l mX4_undo d [.ref 0, .int (gX G n729)] S (QI (fun r730 T730 => Ct G l mX5_undo d [.ref 7, .int (gX G n729)] T730 (QI (fun r739 T739 => (r730 = r739 → Ev G l mL_law (d + 1) 18 [some (.ref 201), some (.ref 0), some (.ref 7), some (.int (i3 + (nI 6)))] [] T739 (QI P)) ∧ (¬ (r730 = r739) → P (nI 0) T739))))))) ∧ (¬ ((gX G n29) &&& (nI 63)) = nI 16 → (((gX G n29) &&& (nI 63)) = nI 17 → ∃ n752 : Nat, ix (i3 + (nI 1)) n752 (gL G) ∧ (Ct G l mX4_keep d [.ref 0, .int (gX G n752)] S (QI (fun r753 T753 => Ct G l mX5_keep d [.ref 7, .int (gX G n752)] T753 (QI (fun r762 T762 => (r753 = r762 → Ev G l mL_law (d + 1) 18 [some (.ref 201), some (.ref 0), some (.ref 7), some (.int (i3 + (nI 6)))] [] T762 (QI P)) ∧ (¬ (r753 = r762) → P (nI 0) T762))))))) ∧ (¬ ((gX G n29) &&& (nI 63)) = nI 17 → (((gX G n29) &&& (nI 63)) = nI 18 → ∃ n775 : Nat, ix (i3 + (nI 1)) n775 (gL G) ∧ (Ct G l mX4_on d [.ref 0, .int (gX G n775)] S (QI (fun r776 T776 => Ct G l mX5_on d [.ref 7, .int (gX G n775)] T776 (QI (fun r785 T785 => (r776 = r785 → Ev G l mL_law (d + 1) 18 [some (.ref 201), some (.ref 0), some (.ref 7), some (.int (i3 + (nI 6)))] [] T785 (QI P)) ∧ (¬ (r776 = r785) → P (nI 0) T785))))))) ∧ (¬ ((gX G n29) &&& (nI 63)) = nI 18 → (((gX G n29) &&& (nI 63)) = nI 19 → Ct G l mX4_belong d [.ref 0] S (QI (fun r794 T794 => Ct G l mX5_belong d [.ref 7] T794 (QI (fun r798 T798 => (r794 = r798 → Ev G l mL_law (d + 1) 18 [some (.ref 201), some (.ref 0), some (.ref 7), some (.int (i3 + (nI 6)))] [] T798 (QI P)) ∧ (¬ (r794 = r798) → P (nI 0) T798)))))) ∧ (¬ ((gX G n29) &&& (nI 63)) = nI 19 → (((gX G n29) &&& (nI 63)) = nI 20 → Ct G l mX4_laws d [.ref 0] S (QI (fun r807 T807 => Ct G l mX5_laws d [.ref 7] T807 (QI (fun r811 T811 => (r807 = r811 → Ev G l mL_law (d + 1) 18 [some (.ref 201), some (.ref 0), some (.ref 7), some (.int (i3 + (nI 6)))] [] T811 (QI P)) ∧ (¬ (r807 = r811) → P (nI 0) T811)))))) ∧ (¬ ((gX G n29) &&& (nI 63)) = nI 20 → (((gX G n29) &&& (nI 63)) = nI 21 → ∃ n824 : Nat, ix (i3 + (nI 1)) n824 (gL G) ∧ (∃ n829 : Nat, ix (i3 + (nI 2)) n829 (gL G) ∧ (Ct G l mX4_seats d [.ref 0, .int (gX G n824), .int (gX G n829)] S (QI (fun r830 T830 => Ct G l mX5_seats d [.ref 7, .int (gX G n824), .int (gX G n829)] T830 (QI (fun r844 T844 => (r830 = r844 → Ev G l mL_law (d + 1) 18 [some (.ref 201), some (.ref 0), some (.ref 7), some (.int (i3 + (nI 6)))] [] T844 (QI P)) ∧ (¬ (r830 = r844) → P (nI 0) T844)))))))) ∧ (¬ ((gX G n29) &&& (nI 63)) = nI 21 → (((gX G n29) &&& (nI 63)) = nI 22 → Ct G l mX4_fewest d [.ref 0] S (QI (fun r853 T853 => Ct G l mX5_fewest d [.ref 7] T853 (QI (fun r857 T857 => (r853 = r857 → Ev G l mL_law (d + 1) 18 [some (.ref 201), some (.ref 0), some (.ref 7), some (.int (i3 + (nI 6)))] [] T857 (QI P)) ∧ (¬ (r853 = r857) → P (nI 0) T857)))))) ∧ (¬ ((gX G n29) &&& (nI 63)) = nI 22 → (((gX G n29) &&& (nI 63)) = nI 23 → ∃ n870 : Nat, ix (i3 + (nI 1)) n870 (gL G) ∧ (Ct G l mX4_then d [.ref 0, .int (gX G n870)] S (QI (fun r871 T871 => Ct G l mX5_then d [.ref 7, .int (gX G n870)] T871 (QI (fun r880 T880 => (r871 = r880 → Ev G l mL_law (d + 1) 18 [some (.ref 201), some (.ref 0), some (.ref 7), some (.int (i3 + (nI 6)))] [] T880 (QI P)) ∧ (¬ (r871 = r880) → P (nI 0) T880))))))) ∧ (¬ ((gX G n29) &&& (nI 63)) = nI 23 → (((gX G n29) &&& (nI 63)) = nI 24 → ∃ n893 : Nat, ix (i3 + (nI 1)) n893 (gL G) ∧ (∃ n898 : Nat, ix (i3 + (nI 2)) n898 (gL G) ∧ (Ct G l mX4_when d [.ref 0, .int (gX G n893), .int (gX G n898)] S (QI (fun r899 T899 => Ct G l mX5_when d [.ref 7, .int (gX G n893), .int (gX G n898)] T899 (QI (fun r913 T913 => (r899 = r913 → Ev G l mL_law (d + 1) 18 [some (.ref 201), some (.ref 0), some (.ref 7), some (.int (i3 + (nI 6)))] [] T913 (QI P)) ∧ (¬ (r899 = r913) → P (nI 0) T913)))))))) ∧ (¬ ((gX G n29) &&& (nI 63)) = nI 24 → (((gX G n29) &&& (nI 63)) = nI 25 → Ct G l mX4_round d [.ref 0] S (QI (fun r922 T922 => Ct G l mX5_round d [.ref 7] T922 (QI (fun r926 T926 => (r922 = r926 → Ev G l mL_law (d + 1) 18 [some (.ref 201), some (.ref 0), some (.ref 7), some (.int (i3 + (nI 6)))] [] T926 (QI P)) ∧ (¬ (r922 = r926) → P (nI 0) T926)))))) ∧ (¬ ((gX G n29) &&& (nI 63)) = nI 25 → (((gX G n29) &&& (nI 63)) = nI 26 → ∃ n939 : Nat, ix (i3 + (nI 1)) n939 (gL G) ∧ (Ct G l mX4_duel d [.ref 0, .int (gX G n939)] S (QI (fun r940 T940 => Ct G l mX5_duel d [.ref 7, .int (gX G n939)] T940 (QI (fun r949 T949 => (r940 = r949 → Ev G l mL_law (d + 1) 18 [some (.ref 201), some (.ref 0), some (.ref 7), some (.int (i3 + (nI 6)))] [] T949 (QI P)) ∧ (¬ (r940 = r949) → P (nI 0) T949))))))) ∧ (¬ ((gX G n29) &&& (nI 63)) = nI 26 → (((gX G n29) &&& (nI 63)) = nI 27 → ∃ n962 : Nat, ix (i3 + (nI 1)) n962 (gL G) ∧ (∃ n967 : Nat, ix (i3 + (nI 2)) n967 (gL G) ∧ (Ct G l mX4_peace d [.ref 0, .int (gX G n962), .int (gX G n967)] S (QI (fun r968 T968 => Ct G l mX5_peace d [.ref 7, .int (gX G n962), .int (gX G n967)] T968 (QI (fun r982 T982 => (r968 = r982 → Ev G l mL_law (d + 1) 18 [some (.ref 201), some (.ref 0), some (.ref 7), some (.int (i3 + (nI 6)))] [] T982 (QI P)) ∧ (¬ (r968 = r982) → P (nI 0) T982)))))))) ∧ (¬ ((gX G n29) &&& (nI 63)) = nI 27 → (((gX G n29) &&& (nI 63)) = nI 28 → ∃ n995 : Nat, ix (i3 + (nI 1)) n995 (gL G) ∧ (∃ n1000 : Nat, ix (i3 + (nI 2)) n1000 (gL G) ∧ (Ct G l mX4_way d [.ref 0, .int (gX G n995), .int (gX G n1000)] S (QI (fun r1001 T1001 => Ct G l mX5_way d [.ref 7, .int (gX G n995), .int (gX G n1000)] T1001 (QI (fun r1015 T1015 => (r1001 = r1015 → Ev G l mL_law (d + 1) 18 [some (.ref 201), some (.ref 0), some (.ref 7), some (.int (i3 + (nI 6)))] [] T1015 (QI P)) ∧ (¬ (r1001 = r1015) → P (nI 0) T1015)))))))) ∧ (¬ ((gX G n29) &&& (nI 63)) = nI 28 → (((gX G n29) &&& (nI 63)) = nI 29 → ∃ n1028 : Nat, ix (i3 + (nI 1)) n1028 (gL G) ∧ (Ct G l mX4_far d [.ref 0, .int (gX G n1028)] S (QI (fun r1029 T1029 => Ct G l mX5_far d [.ref 7, .int (gX G n1028)] T1029 (QI (fun r1038 T1038 => (r1029 = r1038 → Ev G l mL_law (d + 1) 18 [some (.ref 201), some (.ref 0), some (.ref 7), some (.int (i3 + (nI 6)))] [] T1038 (QI P)) ∧ (¬ (r1029 = r1038) → P (nI 0) T1038))))))) ∧ (¬ ((gX G n29) &&& (nI 63)) = nI 29 → (((gX G n29) &&& (nI 63)) = nI 30 → ∃ n1051 : Nat, ix (i3 + (nI 1)) n1051 (gL G) ∧ (∃ n1056 : Nat, ix (i3 + (nI 2)) n1056 (gL G) ∧ (Ct G l mX4_kinds d [.ref 0, .int (gX G n1051), .int (gX G n1056)] S (QI (fun r1057 T1057 => Ct G l mX5_kinds d [.ref 7, .int (gX G n1051), .int (gX G n1056)] T1057 (QI (fun r1071 T1071 => (r1057 = r1071 → Ev G l mL_law (d + 1) 18 [some (.ref 201), some (.ref 0), some (.ref 7), some (.int (i3 + (nI 6)))] [] T1071 (QI P)) ∧ (¬ (r1057 = r1071) → P (nI 0) T1071)))))))) ∧ (¬ ((gX G n29) &&& (nI 63)) = nI 30 → (((gX G n29) &&& (nI 63)) = nI 31 → ∃ n1084 : Nat, ix (i3 + (nI 1)) n1084 (gL G) ∧ (∃ n1089 : Nat, ix (i3 + (nI 2)) n1089 (gL G) ∧ (Ct G l mX4_spots d [.ref 0, .int (gX G n1084), .int (gX G n1089)] S (QI (fun r1090 T1090 => Ct G l mX5_spots d [.ref 7, .int (gX G n1084), .int (gX G n1089)] T1090 (QI (fun r1104 T1104 => (r1090 = r1104 → Ev G l mL_law (d + 1) 18 [some (.ref 201), some (.ref 0), some (.ref 7), some (.int (i3 + (nI 6)))] [] T1104 (QI P)) ∧ (¬ (r1090 = r1104) → P (nI 0) T1104)))))))) ∧ (¬ ((gX G n29) &&& (nI 63)) = nI 31 → (((gX G n29) &&& (nI 63)) = nI 32 → ∃ n1117 : Nat, ix (i3 + (nI 1)) n1117 (gL G) ∧ (∃ n1122 : Nat, ix (i3 + (nI 2)) n1122 (gL G) ∧ (Ct G l mX4_odds d [.ref 0, .int (gX G n1117), .int (gX G n1122)] S (QI (fun r1123 T1123 => Ct G l mX5_odds d [.ref 7, .int (gX G n1117), .int (gX G n1122)] T1123 (QI (fun r1137 T1137 => (r1123 = r1137 → Ev G l mL_law (d + 1) 18 [some (.ref 201), some (.ref 0), some (.ref 7), some (.int (i3 + (nI 6)))] [] T1137 (QI P)) ∧ (¬ (r1123 = r1137) → P (nI 0) T1137)))))))) ∧ (¬ ((gX G n29) &&& (nI 63)) = nI 32 → (((gX G n29) &&& (nI 63)) = nI 33 → ∃ n1150 : Nat, ix (i3 + (nI 1)) n1150 (gL G) ∧ (Ct G l mX4_mid d [.ref 0, .int (gX G n1150)] S (QI (fun r1151 T1151 => Ct G l mX5_mid d [.ref 7, .int (gX G n1150)] T1151 (QI (fun r1160 T1160 => (r1151 = r1160 → Ev G l mL_law (d + 1) 18 [some (.ref 201), some (.ref 0), some (.ref 7), some (.int (i3 + (nI 6)))] [] T1160 (QI P)) ∧ (¬ (r1151 = r1160) → P (nI 0) T1160))))))) ∧ (¬ ((gX G n29) &&& (nI 63)) = nI 33 → (((gX G n29) &&& (nI 63)) = nI 34 → ∃ n1173 : Nat, ix (i3 + (nI 1)) n1173 (gL G) ∧ (∃ n1178 : Nat, ix (i3 + (nI 2)) n1178 (gL G) ∧ (Ct G l mX4_lots d [.ref 0, .int (gX G n1173), .int (gX G n1178)] S (QI (fun r1179 T1179 => Ct G l mX5_lots d [.ref 7, .int (gX G n1173), .int (gX G n1178)] T1179 (QI (fun r1193 T1193 => (r1179 = r1193 → Ev G l mL_law (d + 1) 18 [some (.ref 201), some (.ref 0), some (.ref 7), some (.int (i3 + (nI 6)))] [] T1193 (QI P)) ∧ (¬ (r1179 = r1193) → P (nI 0) T1193)))))))) ∧ (¬ ((gX G n29) &&& (nI 63)) = nI 34 → (((gX G n29) &&& (nI 63)) = nI 35 → Ct G l mX4_asked d [.ref 0] S (QI (fun r1202 T1202 => Ct G l mX5_asked d [.ref 7] T1202 (QI (fun r1206 T1206 => (r1202 = r1206 → Ev G l mL_law (d + 1) 18 [some (.ref 201), some (.ref 0), some (.ref 7), some (.int (i3 + (nI 6)))] [] T1206 (QI P)) ∧ (¬ (r1202 = r1206) → P (nI 0) T1206)))))) ∧ (¬ ((gX G n29) &&& (nI 63)) = nI 35 → (((gX G n29) &&& (nI 63)) = nI 36 → Ct G l mX4_upper d [.ref 0] S (QL (fun r1215 T1215 => Ct G l mX5_upper d [.ref 7] T1215 (QL (fun r1219 T1219 => ((lg_cmp r1215 r1219) = (nI 0) → Ev G l mL_law (d + 1) 18 [some (.ref 201), some (.ref 0), some (.ref 7), some (.int (i3 + (nI 6)))] [] T1219 (QI P)) ∧ (¬ ((lg_cmp r1215 r1219) = (nI 0)) → P (nI 0) T1219)))))) ∧ (¬ ((gX G n29) &&& (nI 63)) = nI 36 → (((gX G n29) &&& (nI 63)) = nI 37 → Ct G l mX4_lower d [.ref 0] S (QL (fun r1229 T1229 => Ct G l mX5_lower d [.ref 7] T1229 (QL (fun r1233 T1233 => ((lg_cmp r1229 r1233) = (nI 0) → Ev G l mL_law (d + 1) 18 [some (.ref 201), some (.ref 0), some (.ref 7), some (.int (i3 + (nI 6)))] [] T1233 (QI P)) ∧ (¬ ((lg_cmp r1229 r1233) = (nI 0)) → P (nI 0) T1233)))))) ∧ (¬ ((gX G n29) &&& (nI 63)) = nI 37 → (((gX G n29) &&& (nI 63)) = nI 38 → ∃ n1247 : Nat, ix (i3 + (nI 1)) n1247 (gL G) ∧ (Ct G l mX4_count d [.ref 0, .int (gX G n1247)] S (QI (fun r1248 T1248 => Ct G l mX5_count d [.ref 7, .int (gX G n1247)] T1248 (QI (fun r1257 T1257 => (r1248 = r1257 → Ev G l mL_law (d + 1) 18 [some (.ref 201), some (.ref 0), some (.ref 7), some (.int (i3 + (nI 6)))] [] T1257 (QI P)) ∧ (¬ (r1248 = r1257) → P (nI 0) T1257))))))) ∧ (¬ ((gX G n29) &&& (nI 63)) = nI 38 → (((gX G n29) &&& (nI 63)) = nI 39 → Ct G l mX4_finding d [.ref 0] S (QI (fun r1266 T1266 => Ct G l mX5_finding d [.ref 7] T1266 (QI (fun r1270 T1270 => (r1266 = r1270 → Ev G l mL_law (d + 1) 18 [some (.ref 201), some (.ref 0), some (.ref 7), some (.int (i3 + (nI 6)))] [] T1270 (QI P)) ∧ (¬ (r1266 = r1270) → P (nI 0) T1270)))))) ∧ (¬ ((gX G n29) &&& (nI 63)) = nI 39 → (((gX G n29) &&& (nI 63)) = nI 40 → ∃ n1283 : Nat, ix (i3 + (nI 1)) n1283 (gL G) ∧ (Ct G l mX4_findings d [.ref 0, .int (gX G n1283)] S (QI (fun r1284 T1284 => Ct G l mX5_findings d [.ref 7, .int (gX G n1283)] T1284 (QI (fun r1293 T1293 => (r1284 = r1293 → Ev G l mL_law (d + 1) 18 [some (.ref 201), some (.ref 0), some (.ref 7), some (.int (i3 + (nI 6)))] [] T1293 (QI P)) ∧ (¬ (r1284 = r1293) → P (nI 0) T1293))))))) ∧ (¬ ((gX G n29) &&& (nI 63)) = nI 40 → (((gX G n29) &&& (nI 63)) = nI 41 → Ct G l mX4_digest d [.ref 0] S (QL (fun r1302 T1302 => Ct G l mX5_digest d [.ref 7] T1302 (QL (fun r1306 T1306 => ((lg_cmp r1302 r1306) = (nI 0) → Ev G l mL_law (d + 1) 18 [some (.ref 201), some (.ref 0), some (.ref 7), some (.int (i3 + (nI 6)))] [] T1306 (QI P)) ∧ (¬ ((lg_cmp r1302 r1306) = (nI 0)) → P (nI 0) T1306)))))) ∧ (¬ ((gX G n29) &&& (nI 63)) = nI 41 → Ev G l mL_law (d + 1) 18 [some (.ref 201), some (.ref 0), some (.ref 7), some (.int (i3 + (nI 6)))] [] S (QI P)))))))))))))))))))))))))))))))))))))))))))))) :
    Ev G l mL_law (d + 1) 18 [some (.ref 201), some (.ref 0), some (.ref 7), some (.int i3)] [] S (QI P) := by
  show Ev G l mL_law (d + 1) 18 [some (.ref 201), some (.ref 0), some (.ref 7), some (.int i3)] [] S (QI P)
  refine r_iload_n (μ := mL_law) (pc := 18) dL_law_18 rfl rfl ?_
  refine r_aload_n (μ := mL_law) (pc := 19) dL_law_19 rfl rfl ?_
  refine r_scriptLen (μ := mL_law) (pc := 20) rfl dL_law_20 ?_
  refine r_bipush (μ := mL_law) (pc := 21) (v := nI 6) dL_law_21 rfl ?_
  refine r_isub (μ := mL_law) (pc := 23) dL_law_23 ?_
  refine r_icmp_gt (μ := mL_law) (pc := 24) (tgt := 1321) dL_law_24 (by decide) ⟨fun q24 => ?_, fun q24 => ?_⟩
  · have h := h.1 q24
    refine r_iconst (μ := mL_law) (pc := 1321) (v := nI 1) dL_law_1321 rfl ?_
    exact r_zret (μ := mL_law) (pc := 1322) dL_law_1322 rfl rfl h
  · have h := h.2 q24
    refine r_aload_n (μ := mL_law) (pc := 27) dL_law_27 rfl rfl ?_
    refine r_iload_n (μ := mL_law) (pc := 28) dL_law_28 rfl rfl ?_
    obtain ⟨n29, hx29, h⟩ := h
    refine r_script (μ := mL_law) (pc := 29) rfl dL_law_29 hx29 ?_
    refine r_bipush (μ := mL_law) (pc := 30) (v := nI 63) dL_law_30 rfl ?_
    refine r_iand (μ := mL_law) (pc := 32) dL_law_32 ?_
    refine r_ts (μ := mL_law) (pc := 33) (td := 1315) [(nI 0, 216), (nI 1, 249), (nI 2, 292), (nI 3, 325), (nI 4, 348), (nI 5, 411), (nI 6, 434), (nI 7, 467), (nI 8, 510), (nI 9, 533), (nI 10, 556), (nI 11, 589), (nI 12, 622), (nI 13, 645), (nI 14, 658), (nI 15, 691), (nI 16, 724), (nI 17, 747), (nI 18, 770), (nI 19, 793), (nI 20, 806), (nI 21, 819), (nI 22, 852), (nI 23, 865), (nI 24, 888), (nI 25, 921), (nI 26, 934), (nI 27, 957), (nI 28, 990), (nI 29, 1023), (nI 30, 1046), (nI 31, 1079), (nI 32, 1112), (nI 33, 1145), (nI 34, 1168), (nI 35, 1201), (nI 36, 1214), (nI 37, 1228), (nI 38, 1242), (nI 39, 1265), (nI 40, 1278), (nI 41, 1301)] dL_law_33 rfl rfl rfl rfl ?_
    refine ⟨fun q33 => ?_, fun q33 => ?_⟩
    · have h := h.1 q33
      refine r_aload_n (μ := mL_law) (pc := 216) dL_law_216 rfl rfl ?_
      refine r_aload_n (μ := mL_law) (pc := 217) dL_law_217 rfl rfl ?_
      refine r_iload_n (μ := mL_law) (pc := 218) dL_law_218 rfl rfl ?_
      refine r_iconst (μ := mL_law) (pc := 219) (v := nI 1) dL_law_219 rfl ?_
      refine r_iadd (μ := mL_law) (pc := 220) dL_law_220 ?_
      obtain ⟨n221, hx221, h⟩ := h
      refine r_script (μ := mL_law) (pc := 221) rfl dL_law_221 hx221 ?_
      refine r_aload_n (μ := mL_law) (pc := 222) dL_law_222 rfl rfl ?_
      refine r_iload_n (μ := mL_law) (pc := 223) dL_law_223 rfl rfl ?_
      refine r_iconst (μ := mL_law) (pc := 224) (v := nI 2) dL_law_224 rfl ?_
      refine r_iadd (μ := mL_law) (pc := 225) dL_law_225 ?_
      obtain ⟨n226, hx226, h⟩ := h
      refine r_script (μ := mL_law) (pc := 226) rfl dL_law_226 hx226 ?_
      refine r_callV (μ := mL_law) (pc := 227) (as := [.int (gX G n221), .int (gX G n226)]) 4 cL_13 dL_law_227 rfl rfl (Nat.le_of_ble_eq_true rfl) rfl okX4_row (Nat.lt_succ_self d) (cat8 (n := 0) rfl (by decide)) rfl h (k_I (fun r227 T227 h => ?_))
      refine r_aload_n (μ := mL_law) (pc := 230) dL_law_230 rfl rfl ?_
      refine r_aload_n (μ := mL_law) (pc := 231) dL_law_231 rfl rfl ?_
      refine r_iload_n (μ := mL_law) (pc := 232) dL_law_232 rfl rfl ?_
      refine r_iconst (μ := mL_law) (pc := 233) (v := nI 1) dL_law_233 rfl ?_
      refine r_iadd (μ := mL_law) (pc := 234) dL_law_234 ?_
      refine r_script (μ := mL_law) (pc := 235) rfl dL_law_235 hx221 ?_
      refine r_aload_n (μ := mL_law) (pc := 236) dL_law_236 rfl rfl ?_
      refine r_iload_n (μ := mL_law) (pc := 237) dL_law_237 rfl rfl ?_
      refine r_iconst (μ := mL_law) (pc := 238) (v := nI 2) dL_law_238 rfl ?_
      refine r_iadd (μ := mL_law) (pc := 239) dL_law_239 ?_
      refine r_script (μ := mL_law) (pc := 240) rfl dL_law_240 hx226 ?_
      refine r_callV (μ := mL_law) (pc := 241) (as := [.int (gX G n221), .int (gX G n226)]) 5 cL_17 dL_law_241 rfl rfl (Nat.le_of_ble_eq_true rfl) rfl okX5_row (Nat.lt_succ_self d) (cat8 (n := 1) rfl (by decide)) rfl h (k_I (fun r241 T241 h => ?_))
      refine r_icmp_eq (μ := mL_law) (pc := 244) (tgt := 1315) dL_law_244 (by decide) ⟨fun q244 => ?_, fun q244 => ?_⟩
      · have h := h.1 q244
        refine r_iinc (μ := mL_law) (pc := 1315) (y := nI 6) (ls' := [some (.ref 201), some (.ref 0), some (.ref 7), some (.int (i3 + (nI 6)))]) dL_law_1315 rfl rfl (Nat.le_of_ble_eq_true rfl) rfl rfl ?_
        refine r_goto (μ := mL_law) (pc := 1318) (tgt := 18) dL_law_1318 (by decide) ?_
        exact h
      · have h := h.2 q244
        refine r_iconst (μ := mL_law) (pc := 247) (v := nI 0) dL_law_247 rfl ?_
        exact r_zret (μ := mL_law) (pc := 248) dL_law_248 rfl rfl h
    have h := h.2 q33
    refine ⟨fun q33 => ?_, fun q33 => ?_⟩
    · have h := h.1 q33
      refine r_aload_n (μ := mL_law) (pc := 249) dL_law_249 rfl rfl ?_
      refine r_aload_n (μ := mL_law) (pc := 250) dL_law_250 rfl rfl ?_
      refine r_iload_n (μ := mL_law) (pc := 251) dL_law_251 rfl rfl ?_
      refine r_iconst (μ := mL_law) (pc := 252) (v := nI 1) dL_law_252 rfl ?_
      refine r_iadd (μ := mL_law) (pc := 253) dL_law_253 ?_
      obtain ⟨n254, hx254, h⟩ := h
      refine r_script (μ := mL_law) (pc := 254) rfl dL_law_254 hx254 ?_
      refine r_aload_n (μ := mL_law) (pc := 255) dL_law_255 rfl rfl ?_
      refine r_iload_n (μ := mL_law) (pc := 256) dL_law_256 rfl rfl ?_
      refine r_iconst (μ := mL_law) (pc := 257) (v := nI 2) dL_law_257 rfl ?_
      refine r_iadd (μ := mL_law) (pc := 258) dL_law_258 ?_
      obtain ⟨n259, hx259, h⟩ := h
      refine r_script (μ := mL_law) (pc := 259) rfl dL_law_259 hx259 ?_
      refine r_aload_n (μ := mL_law) (pc := 260) dL_law_260 rfl rfl ?_
      refine r_iload_n (μ := mL_law) (pc := 261) dL_law_261 rfl rfl ?_
      refine r_iconst (μ := mL_law) (pc := 262) (v := nI 3) dL_law_262 rfl ?_
      refine r_iadd (μ := mL_law) (pc := 263) dL_law_263 ?_
      obtain ⟨n264, hx264, h⟩ := h
      refine r_script (μ := mL_law) (pc := 264) rfl dL_law_264 hx264 ?_
      refine r_callV (μ := mL_law) (pc := 265) (as := [.int (gX G n254), .int (gX G n259), .int (gX G n264)]) 4 cL_18 dL_law_265 rfl rfl (Nat.le_of_ble_eq_true rfl) rfl okX4_lay (Nat.lt_succ_self d) (cat8 (n := 0) rfl (by decide)) rfl h (k_I (fun r265 T265 h => ?_))
      refine r_aload_n (μ := mL_law) (pc := 268) dL_law_268 rfl rfl ?_
      refine r_aload_n (μ := mL_law) (pc := 269) dL_law_269 rfl rfl ?_
      refine r_iload_n (μ := mL_law) (pc := 270) dL_law_270 rfl rfl ?_
      refine r_iconst (μ := mL_law) (pc := 271) (v := nI 1) dL_law_271 rfl ?_
      refine r_iadd (μ := mL_law) (pc := 272) dL_law_272 ?_
      refine r_script (μ := mL_law) (pc := 273) rfl dL_law_273 hx254 ?_
      refine r_aload_n (μ := mL_law) (pc := 274) dL_law_274 rfl rfl ?_
      refine r_iload_n (μ := mL_law) (pc := 275) dL_law_275 rfl rfl ?_
      refine r_iconst (μ := mL_law) (pc := 276) (v := nI 2) dL_law_276 rfl ?_
      refine r_iadd (μ := mL_law) (pc := 277) dL_law_277 ?_
      refine r_script (μ := mL_law) (pc := 278) rfl dL_law_278 hx259 ?_
      refine r_aload_n (μ := mL_law) (pc := 279) dL_law_279 rfl rfl ?_
      refine r_iload_n (μ := mL_law) (pc := 280) dL_law_280 rfl rfl ?_
      refine r_iconst (μ := mL_law) (pc := 281) (v := nI 3) dL_law_281 rfl ?_
      refine r_iadd (μ := mL_law) (pc := 282) dL_law_282 ?_
      refine r_script (μ := mL_law) (pc := 283) rfl dL_law_283 hx264 ?_
      refine r_callV (μ := mL_law) (pc := 284) (as := [.int (gX G n254), .int (gX G n259), .int (gX G n264)]) 5 cL_22 dL_law_284 rfl rfl (Nat.le_of_ble_eq_true rfl) rfl okX5_lay (Nat.lt_succ_self d) (cat8 (n := 1) rfl (by decide)) rfl h (k_I (fun r284 T284 h => ?_))
      refine r_icmp_eq (μ := mL_law) (pc := 287) (tgt := 1315) dL_law_287 (by decide) ⟨fun q287 => ?_, fun q287 => ?_⟩
      · have h := h.1 q287
        refine r_iinc (μ := mL_law) (pc := 1315) (y := nI 6) (ls' := [some (.ref 201), some (.ref 0), some (.ref 7), some (.int (i3 + (nI 6)))]) dL_law_1315 rfl rfl (Nat.le_of_ble_eq_true rfl) rfl rfl ?_
        refine r_goto (μ := mL_law) (pc := 1318) (tgt := 18) dL_law_1318 (by decide) ?_
        exact h
      · have h := h.2 q287
        refine r_iconst (μ := mL_law) (pc := 290) (v := nI 0) dL_law_290 rfl ?_
        exact r_zret (μ := mL_law) (pc := 291) dL_law_291 rfl rfl h
    have h := h.2 q33
    refine ⟨fun q33 => ?_, fun q33 => ?_⟩
    · have h := h.1 q33
      refine r_aload_n (μ := mL_law) (pc := 292) dL_law_292 rfl rfl ?_
      refine r_aload_n (μ := mL_law) (pc := 293) dL_law_293 rfl rfl ?_
      refine r_iload_n (μ := mL_law) (pc := 294) dL_law_294 rfl rfl ?_
      refine r_iconst (μ := mL_law) (pc := 295) (v := nI 1) dL_law_295 rfl ?_
      refine r_iadd (μ := mL_law) (pc := 296) dL_law_296 ?_
      obtain ⟨n297, hx297, h⟩ := h
      refine r_script (μ := mL_law) (pc := 297) rfl dL_law_297 hx297 ?_
      refine r_aload_n (μ := mL_law) (pc := 298) dL_law_298 rfl rfl ?_
      refine r_iload_n (μ := mL_law) (pc := 299) dL_law_299 rfl rfl ?_
      refine r_iconst (μ := mL_law) (pc := 300) (v := nI 2) dL_law_300 rfl ?_
      refine r_iadd (μ := mL_law) (pc := 301) dL_law_301 ?_
      obtain ⟨n302, hx302, h⟩ := h
      refine r_script (μ := mL_law) (pc := 302) rfl dL_law_302 hx302 ?_
      refine r_callV (μ := mL_law) (pc := 303) (as := [.int (gX G n297), .int (gX G n302)]) 4 cL_23 dL_law_303 rfl rfl (Nat.le_of_ble_eq_true rfl) rfl okX4_at (Nat.lt_succ_self d) (cat8 (n := 0) rfl (by decide)) rfl h (k_I (fun r303 T303 h => ?_))
      refine r_aload_n (μ := mL_law) (pc := 306) dL_law_306 rfl rfl ?_
      refine r_aload_n (μ := mL_law) (pc := 307) dL_law_307 rfl rfl ?_
      refine r_iload_n (μ := mL_law) (pc := 308) dL_law_308 rfl rfl ?_
      refine r_iconst (μ := mL_law) (pc := 309) (v := nI 1) dL_law_309 rfl ?_
      refine r_iadd (μ := mL_law) (pc := 310) dL_law_310 ?_
      refine r_script (μ := mL_law) (pc := 311) rfl dL_law_311 hx297 ?_
      refine r_aload_n (μ := mL_law) (pc := 312) dL_law_312 rfl rfl ?_
      refine r_iload_n (μ := mL_law) (pc := 313) dL_law_313 rfl rfl ?_
      refine r_iconst (μ := mL_law) (pc := 314) (v := nI 2) dL_law_314 rfl ?_
      refine r_iadd (μ := mL_law) (pc := 315) dL_law_315 ?_
      refine r_script (μ := mL_law) (pc := 316) rfl dL_law_316 hx302 ?_
      refine r_callV (μ := mL_law) (pc := 317) (as := [.int (gX G n297), .int (gX G n302)]) 5 cL_26 dL_law_317 rfl rfl (Nat.le_of_ble_eq_true rfl) rfl okX5_at (Nat.lt_succ_self d) (cat8 (n := 1) rfl (by decide)) rfl h (k_I (fun r317 T317 h => ?_))
      refine r_icmp_eq (μ := mL_law) (pc := 320) (tgt := 1315) dL_law_320 (by decide) ⟨fun q320 => ?_, fun q320 => ?_⟩
      · have h := h.1 q320
        refine r_iinc (μ := mL_law) (pc := 1315) (y := nI 6) (ls' := [some (.ref 201), some (.ref 0), some (.ref 7), some (.int (i3 + (nI 6)))]) dL_law_1315 rfl rfl (Nat.le_of_ble_eq_true rfl) rfl rfl ?_
        refine r_goto (μ := mL_law) (pc := 1318) (tgt := 18) dL_law_1318 (by decide) ?_
        exact h
      · have h := h.2 q320
        refine r_iconst (μ := mL_law) (pc := 323) (v := nI 0) dL_law_323 rfl ?_
        exact r_zret (μ := mL_law) (pc := 324) dL_law_324 rfl rfl h
    have h := h.2 q33
    refine ⟨fun q33 => ?_, fun q33 => ?_⟩
    · have h := h.1 q33
      refine r_aload_n (μ := mL_law) (pc := 325) dL_law_325 rfl rfl ?_
      refine r_aload_n (μ := mL_law) (pc := 326) dL_law_326 rfl rfl ?_
      refine r_iload_n (μ := mL_law) (pc := 327) dL_law_327 rfl rfl ?_
      refine r_iconst (μ := mL_law) (pc := 328) (v := nI 1) dL_law_328 rfl ?_
      refine r_iadd (μ := mL_law) (pc := 329) dL_law_329 ?_
      obtain ⟨n330, hx330, h⟩ := h
      refine r_script (μ := mL_law) (pc := 330) rfl dL_law_330 hx330 ?_
      refine r_callV (μ := mL_law) (pc := 331) (as := [.int (gX G n330)]) 4 cL_27 dL_law_331 rfl rfl (Nat.le_of_ble_eq_true rfl) rfl okX4_tear (Nat.lt_succ_self d) (cat8 (n := 0) rfl (by decide)) rfl h (k_I (fun r331 T331 h => ?_))
      refine r_aload_n (μ := mL_law) (pc := 334) dL_law_334 rfl rfl ?_
      refine r_aload_n (μ := mL_law) (pc := 335) dL_law_335 rfl rfl ?_
      refine r_iload_n (μ := mL_law) (pc := 336) dL_law_336 rfl rfl ?_
      refine r_iconst (μ := mL_law) (pc := 337) (v := nI 1) dL_law_337 rfl ?_
      refine r_iadd (μ := mL_law) (pc := 338) dL_law_338 ?_
      refine r_script (μ := mL_law) (pc := 339) rfl dL_law_339 hx330 ?_
      refine r_callV (μ := mL_law) (pc := 340) (as := [.int (gX G n330)]) 5 cL_31 dL_law_340 rfl rfl (Nat.le_of_ble_eq_true rfl) rfl okX5_tear (Nat.lt_succ_self d) (cat8 (n := 1) rfl (by decide)) rfl h (k_I (fun r340 T340 h => ?_))
      refine r_icmp_eq (μ := mL_law) (pc := 343) (tgt := 1315) dL_law_343 (by decide) ⟨fun q343 => ?_, fun q343 => ?_⟩
      · have h := h.1 q343
        refine r_iinc (μ := mL_law) (pc := 1315) (y := nI 6) (ls' := [some (.ref 201), some (.ref 0), some (.ref 7), some (.int (i3 + (nI 6)))]) dL_law_1315 rfl rfl (Nat.le_of_ble_eq_true rfl) rfl rfl ?_
        refine r_goto (μ := mL_law) (pc := 1318) (tgt := 18) dL_law_1318 (by decide) ?_
        exact h
      · have h := h.2 q343
        refine r_iconst (μ := mL_law) (pc := 346) (v := nI 0) dL_law_346 rfl ?_
        exact r_zret (μ := mL_law) (pc := 347) dL_law_347 rfl rfl h
    have h := h.2 q33
    refine ⟨fun q33 => ?_, fun q33 => ?_⟩
    · have h := h.1 q33
      refine r_aload_n (μ := mL_law) (pc := 348) dL_law_348 rfl rfl ?_
      refine r_aload_n (μ := mL_law) (pc := 349) dL_law_349 rfl rfl ?_
      refine r_iload_n (μ := mL_law) (pc := 350) dL_law_350 rfl rfl ?_
      refine r_iconst (μ := mL_law) (pc := 351) (v := nI 1) dL_law_351 rfl ?_
      refine r_iadd (μ := mL_law) (pc := 352) dL_law_352 ?_
      obtain ⟨n353, hx353, h⟩ := h
      refine r_script (μ := mL_law) (pc := 353) rfl dL_law_353 hx353 ?_
      refine r_aload_n (μ := mL_law) (pc := 354) dL_law_354 rfl rfl ?_
      refine r_iload_n (μ := mL_law) (pc := 355) dL_law_355 rfl rfl ?_
      refine r_iconst (μ := mL_law) (pc := 356) (v := nI 2) dL_law_356 rfl ?_
      refine r_iadd (μ := mL_law) (pc := 357) dL_law_357 ?_
      obtain ⟨n358, hx358, h⟩ := h
      refine r_script (μ := mL_law) (pc := 358) rfl dL_law_358 hx358 ?_
      refine r_aload_n (μ := mL_law) (pc := 359) dL_law_359 rfl rfl ?_
      refine r_iload_n (μ := mL_law) (pc := 360) dL_law_360 rfl rfl ?_
      refine r_iconst (μ := mL_law) (pc := 361) (v := nI 3) dL_law_361 rfl ?_
      refine r_iadd (μ := mL_law) (pc := 362) dL_law_362 ?_
      obtain ⟨n363, hx363, h⟩ := h
      refine r_script (μ := mL_law) (pc := 363) rfl dL_law_363 hx363 ?_
      refine r_aload_n (μ := mL_law) (pc := 364) dL_law_364 rfl rfl ?_
      refine r_iload_n (μ := mL_law) (pc := 365) dL_law_365 rfl rfl ?_
      refine r_iconst (μ := mL_law) (pc := 366) (v := nI 4) dL_law_366 rfl ?_
      refine r_iadd (μ := mL_law) (pc := 367) dL_law_367 ?_
      obtain ⟨n368, hx368, h⟩ := h
      refine r_script (μ := mL_law) (pc := 368) rfl dL_law_368 hx368 ?_
      refine r_aload_n (μ := mL_law) (pc := 369) dL_law_369 rfl rfl ?_
      refine r_iload_n (μ := mL_law) (pc := 370) dL_law_370 rfl rfl ?_
      refine r_iconst (μ := mL_law) (pc := 371) (v := nI 5) dL_law_371 rfl ?_
      refine r_iadd (μ := mL_law) (pc := 372) dL_law_372 ?_
      obtain ⟨n373, hx373, h⟩ := h
      refine r_script (μ := mL_law) (pc := 373) rfl dL_law_373 hx373 ?_
      refine r_callV (μ := mL_law) (pc := 374) (as := [.int (gX G n353), .int (gX G n358), .int (gX G n363), .int (gX G n368), .int (gX G n373)]) 4 cL_32 dL_law_374 rfl rfl (Nat.le_of_ble_eq_true rfl) rfl okX4_copy (Nat.lt_succ_self d) (cat8 (n := 0) rfl (by decide)) rfl h (k_I (fun r374 T374 h => ?_))
      refine r_aload_n (μ := mL_law) (pc := 377) dL_law_377 rfl rfl ?_
      refine r_aload_n (μ := mL_law) (pc := 378) dL_law_378 rfl rfl ?_
      refine r_iload_n (μ := mL_law) (pc := 379) dL_law_379 rfl rfl ?_
      refine r_iconst (μ := mL_law) (pc := 380) (v := nI 1) dL_law_380 rfl ?_
      refine r_iadd (μ := mL_law) (pc := 381) dL_law_381 ?_
      refine r_script (μ := mL_law) (pc := 382) rfl dL_law_382 hx353 ?_
      refine r_aload_n (μ := mL_law) (pc := 383) dL_law_383 rfl rfl ?_
      refine r_iload_n (μ := mL_law) (pc := 384) dL_law_384 rfl rfl ?_
      refine r_iconst (μ := mL_law) (pc := 385) (v := nI 2) dL_law_385 rfl ?_
      refine r_iadd (μ := mL_law) (pc := 386) dL_law_386 ?_
      refine r_script (μ := mL_law) (pc := 387) rfl dL_law_387 hx358 ?_
      refine r_aload_n (μ := mL_law) (pc := 388) dL_law_388 rfl rfl ?_
      refine r_iload_n (μ := mL_law) (pc := 389) dL_law_389 rfl rfl ?_
      refine r_iconst (μ := mL_law) (pc := 390) (v := nI 3) dL_law_390 rfl ?_
      refine r_iadd (μ := mL_law) (pc := 391) dL_law_391 ?_
      refine r_script (μ := mL_law) (pc := 392) rfl dL_law_392 hx363 ?_
      refine r_aload_n (μ := mL_law) (pc := 393) dL_law_393 rfl rfl ?_
      refine r_iload_n (μ := mL_law) (pc := 394) dL_law_394 rfl rfl ?_
      refine r_iconst (μ := mL_law) (pc := 395) (v := nI 4) dL_law_395 rfl ?_
      refine r_iadd (μ := mL_law) (pc := 396) dL_law_396 ?_
      refine r_script (μ := mL_law) (pc := 397) rfl dL_law_397 hx368 ?_
      refine r_aload_n (μ := mL_law) (pc := 398) dL_law_398 rfl rfl ?_
      refine r_iload_n (μ := mL_law) (pc := 399) dL_law_399 rfl rfl ?_
      refine r_iconst (μ := mL_law) (pc := 400) (v := nI 5) dL_law_400 rfl ?_
      refine r_iadd (μ := mL_law) (pc := 401) dL_law_401 ?_
      refine r_script (μ := mL_law) (pc := 402) rfl dL_law_402 hx373 ?_
      refine r_callV (μ := mL_law) (pc := 403) (as := [.int (gX G n353), .int (gX G n358), .int (gX G n363), .int (gX G n368), .int (gX G n373)]) 5 cL_36 dL_law_403 rfl rfl (Nat.le_of_ble_eq_true rfl) rfl okX5_copy (Nat.lt_succ_self d) (cat8 (n := 1) rfl (by decide)) rfl h (k_I (fun r403 T403 h => ?_))
      refine r_icmp_eq (μ := mL_law) (pc := 406) (tgt := 1315) dL_law_406 (by decide) ⟨fun q406 => ?_, fun q406 => ?_⟩
      · have h := h.1 q406
        refine r_iinc (μ := mL_law) (pc := 1315) (y := nI 6) (ls' := [some (.ref 201), some (.ref 0), some (.ref 7), some (.int (i3 + (nI 6)))]) dL_law_1315 rfl rfl (Nat.le_of_ble_eq_true rfl) rfl rfl ?_
        refine r_goto (μ := mL_law) (pc := 1318) (tgt := 18) dL_law_1318 (by decide) ?_
        exact h
      · have h := h.2 q406
        refine r_iconst (μ := mL_law) (pc := 409) (v := nI 0) dL_law_409 rfl ?_
        exact r_zret (μ := mL_law) (pc := 410) dL_law_410 rfl rfl h
    have h := h.2 q33
    refine ⟨fun q33 => ?_, fun q33 => ?_⟩
    · have h := h.1 q33
      refine r_aload_n (μ := mL_law) (pc := 411) dL_law_411 rfl rfl ?_
      refine r_aload_n (μ := mL_law) (pc := 412) dL_law_412 rfl rfl ?_
      refine r_iload_n (μ := mL_law) (pc := 413) dL_law_413 rfl rfl ?_
      refine r_iconst (μ := mL_law) (pc := 414) (v := nI 1) dL_law_414 rfl ?_
      refine r_iadd (μ := mL_law) (pc := 415) dL_law_415 ?_
      obtain ⟨n416, hx416, h⟩ := h
      refine r_script (μ := mL_law) (pc := 416) rfl dL_law_416 hx416 ?_
      refine r_callV (μ := mL_law) (pc := 417) (as := [.int (gX G n416)]) 4 cL_37 dL_law_417 rfl rfl (Nat.le_of_ble_eq_true rfl) rfl okX4_mean (Nat.lt_succ_self d) (cat8 (n := 0) rfl (by decide)) rfl h (k_I (fun r417 T417 h => ?_))
      refine r_aload_n (μ := mL_law) (pc := 420) dL_law_420 rfl rfl ?_
      refine r_aload_n (μ := mL_law) (pc := 421) dL_law_421 rfl rfl ?_
      refine r_iload_n (μ := mL_law) (pc := 422) dL_law_422 rfl rfl ?_
      refine r_iconst (μ := mL_law) (pc := 423) (v := nI 1) dL_law_423 rfl ?_
      refine r_iadd (μ := mL_law) (pc := 424) dL_law_424 ?_
      refine r_script (μ := mL_law) (pc := 425) rfl dL_law_425 hx416 ?_
      refine r_callV (μ := mL_law) (pc := 426) (as := [.int (gX G n416)]) 5 cL_40 dL_law_426 rfl rfl (Nat.le_of_ble_eq_true rfl) rfl okX5_mean (Nat.lt_succ_self d) (cat8 (n := 1) rfl (by decide)) rfl h (k_I (fun r426 T426 h => ?_))
      refine r_icmp_eq (μ := mL_law) (pc := 429) (tgt := 1315) dL_law_429 (by decide) ⟨fun q429 => ?_, fun q429 => ?_⟩
      · have h := h.1 q429
        refine r_iinc (μ := mL_law) (pc := 1315) (y := nI 6) (ls' := [some (.ref 201), some (.ref 0), some (.ref 7), some (.int (i3 + (nI 6)))]) dL_law_1315 rfl rfl (Nat.le_of_ble_eq_true rfl) rfl rfl ?_
        refine r_goto (μ := mL_law) (pc := 1318) (tgt := 18) dL_law_1318 (by decide) ?_
        exact h
      · have h := h.2 q429
        refine r_iconst (μ := mL_law) (pc := 432) (v := nI 0) dL_law_432 rfl ?_
        exact r_zret (μ := mL_law) (pc := 433) dL_law_433 rfl rfl h
    have h := h.2 q33
    refine ⟨fun q33 => ?_, fun q33 => ?_⟩
    · have h := h.1 q33
      refine r_aload_n (μ := mL_law) (pc := 434) dL_law_434 rfl rfl ?_
      refine r_aload_n (μ := mL_law) (pc := 435) dL_law_435 rfl rfl ?_
      refine r_iload_n (μ := mL_law) (pc := 436) dL_law_436 rfl rfl ?_
      refine r_iconst (μ := mL_law) (pc := 437) (v := nI 1) dL_law_437 rfl ?_
      refine r_iadd (μ := mL_law) (pc := 438) dL_law_438 ?_
      obtain ⟨n439, hx439, h⟩ := h
      refine r_script (μ := mL_law) (pc := 439) rfl dL_law_439 hx439 ?_
      refine r_aload_n (μ := mL_law) (pc := 440) dL_law_440 rfl rfl ?_
      refine r_iload_n (μ := mL_law) (pc := 441) dL_law_441 rfl rfl ?_
      refine r_iconst (μ := mL_law) (pc := 442) (v := nI 2) dL_law_442 rfl ?_
      refine r_iadd (μ := mL_law) (pc := 443) dL_law_443 ?_
      obtain ⟨n444, hx444, h⟩ := h
      refine r_script (μ := mL_law) (pc := 444) rfl dL_law_444 hx444 ?_
      refine r_callV (μ := mL_law) (pc := 445) (as := [.int (gX G n439), .int (gX G n444)]) 4 cL_41 dL_law_445 rfl rfl (Nat.le_of_ble_eq_true rfl) rfl okX4_text (Nat.lt_succ_self d) (cat8 (n := 0) rfl (by decide)) rfl h (k_I (fun r445 T445 h => ?_))
      refine r_aload_n (μ := mL_law) (pc := 448) dL_law_448 rfl rfl ?_
      refine r_aload_n (μ := mL_law) (pc := 449) dL_law_449 rfl rfl ?_
      refine r_iload_n (μ := mL_law) (pc := 450) dL_law_450 rfl rfl ?_
      refine r_iconst (μ := mL_law) (pc := 451) (v := nI 1) dL_law_451 rfl ?_
      refine r_iadd (μ := mL_law) (pc := 452) dL_law_452 ?_
      refine r_script (μ := mL_law) (pc := 453) rfl dL_law_453 hx439 ?_
      refine r_aload_n (μ := mL_law) (pc := 454) dL_law_454 rfl rfl ?_
      refine r_iload_n (μ := mL_law) (pc := 455) dL_law_455 rfl rfl ?_
      refine r_iconst (μ := mL_law) (pc := 456) (v := nI 2) dL_law_456 rfl ?_
      refine r_iadd (μ := mL_law) (pc := 457) dL_law_457 ?_
      refine r_script (μ := mL_law) (pc := 458) rfl dL_law_458 hx444 ?_
      refine r_callV (μ := mL_law) (pc := 459) (as := [.int (gX G n439), .int (gX G n444)]) 5 cL_44 dL_law_459 rfl rfl (Nat.le_of_ble_eq_true rfl) rfl okX5_text (Nat.lt_succ_self d) (cat8 (n := 1) rfl (by decide)) rfl h (k_I (fun r459 T459 h => ?_))
      refine r_icmp_eq (μ := mL_law) (pc := 462) (tgt := 1315) dL_law_462 (by decide) ⟨fun q462 => ?_, fun q462 => ?_⟩
      · have h := h.1 q462
        refine r_iinc (μ := mL_law) (pc := 1315) (y := nI 6) (ls' := [some (.ref 201), some (.ref 0), some (.ref 7), some (.int (i3 + (nI 6)))]) dL_law_1315 rfl rfl (Nat.le_of_ble_eq_true rfl) rfl rfl ?_
        refine r_goto (μ := mL_law) (pc := 1318) (tgt := 18) dL_law_1318 (by decide) ?_
        exact h
      · have h := h.2 q462
        refine r_iconst (μ := mL_law) (pc := 465) (v := nI 0) dL_law_465 rfl ?_
        exact r_zret (μ := mL_law) (pc := 466) dL_law_466 rfl rfl h
    have h := h.2 q33
    refine ⟨fun q33 => ?_, fun q33 => ?_⟩
    · have h := h.1 q33
      refine r_aload_n (μ := mL_law) (pc := 467) dL_law_467 rfl rfl ?_
      refine r_aload_n (μ := mL_law) (pc := 468) dL_law_468 rfl rfl ?_
      refine r_iload_n (μ := mL_law) (pc := 469) dL_law_469 rfl rfl ?_
      refine r_iconst (μ := mL_law) (pc := 470) (v := nI 1) dL_law_470 rfl ?_
      refine r_iadd (μ := mL_law) (pc := 471) dL_law_471 ?_
      obtain ⟨n472, hx472, h⟩ := h
      refine r_script (μ := mL_law) (pc := 472) rfl dL_law_472 hx472 ?_
      refine r_aload_n (μ := mL_law) (pc := 473) dL_law_473 rfl rfl ?_
      refine r_iload_n (μ := mL_law) (pc := 474) dL_law_474 rfl rfl ?_
      refine r_iconst (μ := mL_law) (pc := 475) (v := nI 2) dL_law_475 rfl ?_
      refine r_iadd (μ := mL_law) (pc := 476) dL_law_476 ?_
      obtain ⟨n477, hx477, h⟩ := h
      refine r_script (μ := mL_law) (pc := 477) rfl dL_law_477 hx477 ?_
      refine r_aload_n (μ := mL_law) (pc := 478) dL_law_478 rfl rfl ?_
      refine r_iload_n (μ := mL_law) (pc := 479) dL_law_479 rfl rfl ?_
      refine r_iconst (μ := mL_law) (pc := 480) (v := nI 3) dL_law_480 rfl ?_
      refine r_iadd (μ := mL_law) (pc := 481) dL_law_481 ?_
      obtain ⟨n482, hx482, h⟩ := h
      refine r_script (μ := mL_law) (pc := 482) rfl dL_law_482 hx482 ?_
      refine r_callV (μ := mL_law) (pc := 483) (as := [.int (gX G n472), .int (gX G n477), .int (gX G n482)]) 4 cL_45 dL_law_483 rfl rfl (Nat.le_of_ble_eq_true rfl) rfl okX4_put (Nat.lt_succ_self d) (cat8 (n := 0) rfl (by decide)) rfl h (k_I (fun r483 T483 h => ?_))
      refine r_aload_n (μ := mL_law) (pc := 486) dL_law_486 rfl rfl ?_
      refine r_aload_n (μ := mL_law) (pc := 487) dL_law_487 rfl rfl ?_
      refine r_iload_n (μ := mL_law) (pc := 488) dL_law_488 rfl rfl ?_
      refine r_iconst (μ := mL_law) (pc := 489) (v := nI 1) dL_law_489 rfl ?_
      refine r_iadd (μ := mL_law) (pc := 490) dL_law_490 ?_
      refine r_script (μ := mL_law) (pc := 491) rfl dL_law_491 hx472 ?_
      refine r_aload_n (μ := mL_law) (pc := 492) dL_law_492 rfl rfl ?_
      refine r_iload_n (μ := mL_law) (pc := 493) dL_law_493 rfl rfl ?_
      refine r_iconst (μ := mL_law) (pc := 494) (v := nI 2) dL_law_494 rfl ?_
      refine r_iadd (μ := mL_law) (pc := 495) dL_law_495 ?_
      refine r_script (μ := mL_law) (pc := 496) rfl dL_law_496 hx477 ?_
      refine r_aload_n (μ := mL_law) (pc := 497) dL_law_497 rfl rfl ?_
      refine r_iload_n (μ := mL_law) (pc := 498) dL_law_498 rfl rfl ?_
      refine r_iconst (μ := mL_law) (pc := 499) (v := nI 3) dL_law_499 rfl ?_
      refine r_iadd (μ := mL_law) (pc := 500) dL_law_500 ?_
      refine r_script (μ := mL_law) (pc := 501) rfl dL_law_501 hx482 ?_
      refine r_callV (μ := mL_law) (pc := 502) (as := [.int (gX G n472), .int (gX G n477), .int (gX G n482)]) 5 cL_48 dL_law_502 rfl rfl (Nat.le_of_ble_eq_true rfl) rfl okX5_put (Nat.lt_succ_self d) (cat8 (n := 1) rfl (by decide)) rfl h (k_I (fun r502 T502 h => ?_))
      refine r_icmp_eq (μ := mL_law) (pc := 505) (tgt := 1315) dL_law_505 (by decide) ⟨fun q505 => ?_, fun q505 => ?_⟩
      · have h := h.1 q505
        refine r_iinc (μ := mL_law) (pc := 1315) (y := nI 6) (ls' := [some (.ref 201), some (.ref 0), some (.ref 7), some (.int (i3 + (nI 6)))]) dL_law_1315 rfl rfl (Nat.le_of_ble_eq_true rfl) rfl rfl ?_
        refine r_goto (μ := mL_law) (pc := 1318) (tgt := 18) dL_law_1318 (by decide) ?_
        exact h
      · have h := h.2 q505
        refine r_iconst (μ := mL_law) (pc := 508) (v := nI 0) dL_law_508 rfl ?_
        exact r_zret (μ := mL_law) (pc := 509) dL_law_509 rfl rfl h
    have h := h.2 q33
    refine ⟨fun q33 => ?_, fun q33 => ?_⟩
    · have h := h.1 q33
      refine r_aload_n (μ := mL_law) (pc := 510) dL_law_510 rfl rfl ?_
      refine r_aload_n (μ := mL_law) (pc := 511) dL_law_511 rfl rfl ?_
      refine r_iload_n (μ := mL_law) (pc := 512) dL_law_512 rfl rfl ?_
      refine r_iconst (μ := mL_law) (pc := 513) (v := nI 1) dL_law_513 rfl ?_
      refine r_iadd (μ := mL_law) (pc := 514) dL_law_514 ?_
      obtain ⟨n515, hx515, h⟩ := h
      refine r_script (μ := mL_law) (pc := 515) rfl dL_law_515 hx515 ?_
      refine r_callV (μ := mL_law) (pc := 516) (as := [.int (gX G n515)]) 4 cL_49 dL_law_516 rfl rfl (Nat.le_of_ble_eq_true rfl) rfl okX4_fault (Nat.lt_succ_self d) (cat8 (n := 0) rfl (by decide)) rfl h (k_I (fun r516 T516 h => ?_))
      refine r_aload_n (μ := mL_law) (pc := 519) dL_law_519 rfl rfl ?_
      refine r_aload_n (μ := mL_law) (pc := 520) dL_law_520 rfl rfl ?_
      refine r_iload_n (μ := mL_law) (pc := 521) dL_law_521 rfl rfl ?_
      refine r_iconst (μ := mL_law) (pc := 522) (v := nI 1) dL_law_522 rfl ?_
      refine r_iadd (μ := mL_law) (pc := 523) dL_law_523 ?_
      refine r_script (μ := mL_law) (pc := 524) rfl dL_law_524 hx515 ?_
      refine r_callV (μ := mL_law) (pc := 525) (as := [.int (gX G n515)]) 5 cL_52 dL_law_525 rfl rfl (Nat.le_of_ble_eq_true rfl) rfl okX5_fault (Nat.lt_succ_self d) (cat8 (n := 1) rfl (by decide)) rfl h (k_I (fun r525 T525 h => ?_))
      refine r_icmp_eq (μ := mL_law) (pc := 528) (tgt := 1315) dL_law_528 (by decide) ⟨fun q528 => ?_, fun q528 => ?_⟩
      · have h := h.1 q528
        refine r_iinc (μ := mL_law) (pc := 1315) (y := nI 6) (ls' := [some (.ref 201), some (.ref 0), some (.ref 7), some (.int (i3 + (nI 6)))]) dL_law_1315 rfl rfl (Nat.le_of_ble_eq_true rfl) rfl rfl ?_
        refine r_goto (μ := mL_law) (pc := 1318) (tgt := 18) dL_law_1318 (by decide) ?_
        exact h
      · have h := h.2 q528
        refine r_iconst (μ := mL_law) (pc := 531) (v := nI 0) dL_law_531 rfl ?_
        exact r_zret (μ := mL_law) (pc := 532) dL_law_532 rfl rfl h
    have h := h.2 q33
    refine ⟨fun q33 => ?_, fun q33 => ?_⟩
    · have h := h.1 q33
      refine r_aload_n (μ := mL_law) (pc := 533) dL_law_533 rfl rfl ?_
      refine r_aload_n (μ := mL_law) (pc := 534) dL_law_534 rfl rfl ?_
      refine r_iload_n (μ := mL_law) (pc := 535) dL_law_535 rfl rfl ?_
      refine r_iconst (μ := mL_law) (pc := 536) (v := nI 1) dL_law_536 rfl ?_
      refine r_iadd (μ := mL_law) (pc := 537) dL_law_537 ?_
      obtain ⟨n538, hx538, h⟩ := h
      refine r_script (μ := mL_law) (pc := 538) rfl dL_law_538 hx538 ?_
      refine r_callV (μ := mL_law) (pc := 539) (as := [.int (gX G n538)]) 4 cL_53 dL_law_539 rfl rfl (Nat.le_of_ble_eq_true rfl) rfl okX4_land (Nat.lt_succ_self d) (cat8 (n := 0) rfl (by decide)) rfl h (k_I (fun r539 T539 h => ?_))
      refine r_aload_n (μ := mL_law) (pc := 542) dL_law_542 rfl rfl ?_
      refine r_aload_n (μ := mL_law) (pc := 543) dL_law_543 rfl rfl ?_
      refine r_iload_n (μ := mL_law) (pc := 544) dL_law_544 rfl rfl ?_
      refine r_iconst (μ := mL_law) (pc := 545) (v := nI 1) dL_law_545 rfl ?_
      refine r_iadd (μ := mL_law) (pc := 546) dL_law_546 ?_
      refine r_script (μ := mL_law) (pc := 547) rfl dL_law_547 hx538 ?_
      refine r_callV (μ := mL_law) (pc := 548) (as := [.int (gX G n538)]) 5 cL_56 dL_law_548 rfl rfl (Nat.le_of_ble_eq_true rfl) rfl okX5_land (Nat.lt_succ_self d) (cat8 (n := 1) rfl (by decide)) rfl h (k_I (fun r548 T548 h => ?_))
      refine r_icmp_eq (μ := mL_law) (pc := 551) (tgt := 1315) dL_law_551 (by decide) ⟨fun q551 => ?_, fun q551 => ?_⟩
      · have h := h.1 q551
        refine r_iinc (μ := mL_law) (pc := 1315) (y := nI 6) (ls' := [some (.ref 201), some (.ref 0), some (.ref 7), some (.int (i3 + (nI 6)))]) dL_law_1315 rfl rfl (Nat.le_of_ble_eq_true rfl) rfl rfl ?_
        refine r_goto (μ := mL_law) (pc := 1318) (tgt := 18) dL_law_1318 (by decide) ?_
        exact h
      · have h := h.2 q551
        refine r_iconst (μ := mL_law) (pc := 554) (v := nI 0) dL_law_554 rfl ?_
        exact r_zret (μ := mL_law) (pc := 555) dL_law_555 rfl rfl h
    have h := h.2 q33
    refine ⟨fun q33 => ?_, fun q33 => ?_⟩
    · have h := h.1 q33
      refine r_aload_n (μ := mL_law) (pc := 556) dL_law_556 rfl rfl ?_
      refine r_aload_n (μ := mL_law) (pc := 557) dL_law_557 rfl rfl ?_
      refine r_iload_n (μ := mL_law) (pc := 558) dL_law_558 rfl rfl ?_
      refine r_iconst (μ := mL_law) (pc := 559) (v := nI 1) dL_law_559 rfl ?_
      refine r_iadd (μ := mL_law) (pc := 560) dL_law_560 ?_
      obtain ⟨n561, hx561, h⟩ := h
      refine r_script (μ := mL_law) (pc := 561) rfl dL_law_561 hx561 ?_
      refine r_aload_n (μ := mL_law) (pc := 562) dL_law_562 rfl rfl ?_
      refine r_iload_n (μ := mL_law) (pc := 563) dL_law_563 rfl rfl ?_
      refine r_iconst (μ := mL_law) (pc := 564) (v := nI 2) dL_law_564 rfl ?_
      refine r_iadd (μ := mL_law) (pc := 565) dL_law_565 ?_
      obtain ⟨n566, hx566, h⟩ := h
      refine r_script (μ := mL_law) (pc := 566) rfl dL_law_566 hx566 ?_
      refine r_callV (μ := mL_law) (pc := 567) (as := [.int (gX G n561), .int (gX G n566)]) 4 cL_57 dL_law_567 rfl rfl (Nat.le_of_ble_eq_true rfl) rfl okX4_one (Nat.lt_succ_self d) (cat8 (n := 0) rfl (by decide)) rfl h (k_I (fun r567 T567 h => ?_))
      refine r_aload_n (μ := mL_law) (pc := 570) dL_law_570 rfl rfl ?_
      refine r_aload_n (μ := mL_law) (pc := 571) dL_law_571 rfl rfl ?_
      refine r_iload_n (μ := mL_law) (pc := 572) dL_law_572 rfl rfl ?_
      refine r_iconst (μ := mL_law) (pc := 573) (v := nI 1) dL_law_573 rfl ?_
      refine r_iadd (μ := mL_law) (pc := 574) dL_law_574 ?_
      refine r_script (μ := mL_law) (pc := 575) rfl dL_law_575 hx561 ?_
      refine r_aload_n (μ := mL_law) (pc := 576) dL_law_576 rfl rfl ?_
      refine r_iload_n (μ := mL_law) (pc := 577) dL_law_577 rfl rfl ?_
      refine r_iconst (μ := mL_law) (pc := 578) (v := nI 2) dL_law_578 rfl ?_
      refine r_iadd (μ := mL_law) (pc := 579) dL_law_579 ?_
      refine r_script (μ := mL_law) (pc := 580) rfl dL_law_580 hx566 ?_
      refine r_callV (μ := mL_law) (pc := 581) (as := [.int (gX G n561), .int (gX G n566)]) 5 cL_60 dL_law_581 rfl rfl (Nat.le_of_ble_eq_true rfl) rfl okX5_one (Nat.lt_succ_self d) (cat8 (n := 1) rfl (by decide)) rfl h (k_I (fun r581 T581 h => ?_))
      refine r_icmp_eq (μ := mL_law) (pc := 584) (tgt := 1315) dL_law_584 (by decide) ⟨fun q584 => ?_, fun q584 => ?_⟩
      · have h := h.1 q584
        refine r_iinc (μ := mL_law) (pc := 1315) (y := nI 6) (ls' := [some (.ref 201), some (.ref 0), some (.ref 7), some (.int (i3 + (nI 6)))]) dL_law_1315 rfl rfl (Nat.le_of_ble_eq_true rfl) rfl rfl ?_
        refine r_goto (μ := mL_law) (pc := 1318) (tgt := 18) dL_law_1318 (by decide) ?_
        exact h
      · have h := h.2 q584
        refine r_iconst (μ := mL_law) (pc := 587) (v := nI 0) dL_law_587 rfl ?_
        exact r_zret (μ := mL_law) (pc := 588) dL_law_588 rfl rfl h
    have h := h.2 q33
    refine ⟨fun q33 => ?_, fun q33 => ?_⟩
    · have h := h.1 q33
      refine r_aload_n (μ := mL_law) (pc := 589) dL_law_589 rfl rfl ?_
      refine r_aload_n (μ := mL_law) (pc := 590) dL_law_590 rfl rfl ?_
      refine r_iload_n (μ := mL_law) (pc := 591) dL_law_591 rfl rfl ?_
      refine r_iconst (μ := mL_law) (pc := 592) (v := nI 1) dL_law_592 rfl ?_
      refine r_iadd (μ := mL_law) (pc := 593) dL_law_593 ?_
      obtain ⟨n594, hx594, h⟩ := h
      refine r_script (μ := mL_law) (pc := 594) rfl dL_law_594 hx594 ?_
      refine r_aload_n (μ := mL_law) (pc := 595) dL_law_595 rfl rfl ?_
      refine r_iload_n (μ := mL_law) (pc := 596) dL_law_596 rfl rfl ?_
      refine r_iconst (μ := mL_law) (pc := 597) (v := nI 2) dL_law_597 rfl ?_
      refine r_iadd (μ := mL_law) (pc := 598) dL_law_598 ?_
      obtain ⟨n599, hx599, h⟩ := h
      refine r_script (μ := mL_law) (pc := 599) rfl dL_law_599 hx599 ?_
      refine r_callV (μ := mL_law) (pc := 600) (as := [.int (gX G n594), .int (gX G n599)]) 4 cL_61 dL_law_600 rfl rfl (Nat.le_of_ble_eq_true rfl) rfl okX4_mark (Nat.lt_succ_self d) (cat8 (n := 0) rfl (by decide)) rfl h (k_I (fun r600 T600 h => ?_))
      refine r_aload_n (μ := mL_law) (pc := 603) dL_law_603 rfl rfl ?_
      refine r_aload_n (μ := mL_law) (pc := 604) dL_law_604 rfl rfl ?_
      refine r_iload_n (μ := mL_law) (pc := 605) dL_law_605 rfl rfl ?_
      refine r_iconst (μ := mL_law) (pc := 606) (v := nI 1) dL_law_606 rfl ?_
      refine r_iadd (μ := mL_law) (pc := 607) dL_law_607 ?_
      refine r_script (μ := mL_law) (pc := 608) rfl dL_law_608 hx594 ?_
      refine r_aload_n (μ := mL_law) (pc := 609) dL_law_609 rfl rfl ?_
      refine r_iload_n (μ := mL_law) (pc := 610) dL_law_610 rfl rfl ?_
      refine r_iconst (μ := mL_law) (pc := 611) (v := nI 2) dL_law_611 rfl ?_
      refine r_iadd (μ := mL_law) (pc := 612) dL_law_612 ?_
      refine r_script (μ := mL_law) (pc := 613) rfl dL_law_613 hx599 ?_
      refine r_callV (μ := mL_law) (pc := 614) (as := [.int (gX G n594), .int (gX G n599)]) 5 cL_64 dL_law_614 rfl rfl (Nat.le_of_ble_eq_true rfl) rfl okX5_mark (Nat.lt_succ_self d) (cat8 (n := 1) rfl (by decide)) rfl h (k_I (fun r614 T614 h => ?_))
      refine r_icmp_eq (μ := mL_law) (pc := 617) (tgt := 1315) dL_law_617 (by decide) ⟨fun q617 => ?_, fun q617 => ?_⟩
      · have h := h.1 q617
        refine r_iinc (μ := mL_law) (pc := 1315) (y := nI 6) (ls' := [some (.ref 201), some (.ref 0), some (.ref 7), some (.int (i3 + (nI 6)))]) dL_law_1315 rfl rfl (Nat.le_of_ble_eq_true rfl) rfl rfl ?_
        refine r_goto (μ := mL_law) (pc := 1318) (tgt := 18) dL_law_1318 (by decide) ?_
        exact h
      · have h := h.2 q617
        refine r_iconst (μ := mL_law) (pc := 620) (v := nI 0) dL_law_620 rfl ?_
        exact r_zret (μ := mL_law) (pc := 621) dL_law_621 rfl rfl h
    have h := h.2 q33
    refine ⟨fun q33 => ?_, fun q33 => ?_⟩
    · have h := h.1 q33
      refine r_aload_n (μ := mL_law) (pc := 622) dL_law_622 rfl rfl ?_
      refine r_aload_n (μ := mL_law) (pc := 623) dL_law_623 rfl rfl ?_
      refine r_iload_n (μ := mL_law) (pc := 624) dL_law_624 rfl rfl ?_
      refine r_iconst (μ := mL_law) (pc := 625) (v := nI 1) dL_law_625 rfl ?_
      refine r_iadd (μ := mL_law) (pc := 626) dL_law_626 ?_
      obtain ⟨n627, hx627, h⟩ := h
      refine r_script (μ := mL_law) (pc := 627) rfl dL_law_627 hx627 ?_
      refine r_callV (μ := mL_law) (pc := 628) (as := [.int (gX G n627)]) 4 cL_65 dL_law_628 rfl rfl (Nat.le_of_ble_eq_true rfl) rfl okX4_coast (Nat.lt_succ_self d) (cat8 (n := 0) rfl (by decide)) rfl h (k_I (fun r628 T628 h => ?_))
      refine r_aload_n (μ := mL_law) (pc := 631) dL_law_631 rfl rfl ?_
      refine r_aload_n (μ := mL_law) (pc := 632) dL_law_632 rfl rfl ?_
      refine r_iload_n (μ := mL_law) (pc := 633) dL_law_633 rfl rfl ?_
      refine r_iconst (μ := mL_law) (pc := 634) (v := nI 1) dL_law_634 rfl ?_
      refine r_iadd (μ := mL_law) (pc := 635) dL_law_635 ?_
      refine r_script (μ := mL_law) (pc := 636) rfl dL_law_636 hx627 ?_
      refine r_callV (μ := mL_law) (pc := 637) (as := [.int (gX G n627)]) 5 cL_68 dL_law_637 rfl rfl (Nat.le_of_ble_eq_true rfl) rfl okX5_coast (Nat.lt_succ_self d) (cat8 (n := 1) rfl (by decide)) rfl h (k_I (fun r637 T637 h => ?_))
      refine r_icmp_eq (μ := mL_law) (pc := 640) (tgt := 1315) dL_law_640 (by decide) ⟨fun q640 => ?_, fun q640 => ?_⟩
      · have h := h.1 q640
        refine r_iinc (μ := mL_law) (pc := 1315) (y := nI 6) (ls' := [some (.ref 201), some (.ref 0), some (.ref 7), some (.int (i3 + (nI 6)))]) dL_law_1315 rfl rfl (Nat.le_of_ble_eq_true rfl) rfl rfl ?_
        refine r_goto (μ := mL_law) (pc := 1318) (tgt := 18) dL_law_1318 (by decide) ?_
        exact h
      · have h := h.2 q640
        refine r_iconst (μ := mL_law) (pc := 643) (v := nI 0) dL_law_643 rfl ?_
        exact r_zret (μ := mL_law) (pc := 644) dL_law_644 rfl rfl h
    have h := h.2 q33
    refine ⟨fun q33 => ?_, fun q33 => ?_⟩
    · have h := h.1 q33
      refine r_aload_n (μ := mL_law) (pc := 645) dL_law_645 rfl rfl ?_
      refine r_callV (μ := mL_law) (pc := 646) (as := []) 4 cL_69 dL_law_646 rfl rfl (Nat.le_of_ble_eq_true rfl) rfl okX4_year (Nat.lt_succ_self d) (cat8 (n := 0) rfl (by decide)) rfl h (k_I (fun r646 T646 h => ?_))
      refine r_aload_n (μ := mL_law) (pc := 649) dL_law_649 rfl rfl ?_
      refine r_callV (μ := mL_law) (pc := 650) (as := []) 5 cL_73 dL_law_650 rfl rfl (Nat.le_of_ble_eq_true rfl) rfl okX5_year (Nat.lt_succ_self d) (cat8 (n := 1) rfl (by decide)) rfl h (k_I (fun r650 T650 h => ?_))
      refine r_icmp_eq (μ := mL_law) (pc := 653) (tgt := 1315) dL_law_653 (by decide) ⟨fun q653 => ?_, fun q653 => ?_⟩
      · have h := h.1 q653
        refine r_iinc (μ := mL_law) (pc := 1315) (y := nI 6) (ls' := [some (.ref 201), some (.ref 0), some (.ref 7), some (.int (i3 + (nI 6)))]) dL_law_1315 rfl rfl (Nat.le_of_ble_eq_true rfl) rfl rfl ?_
        refine r_goto (μ := mL_law) (pc := 1318) (tgt := 18) dL_law_1318 (by decide) ?_
        exact h
      · have h := h.2 q653
        refine r_iconst (μ := mL_law) (pc := 656) (v := nI 0) dL_law_656 rfl ?_
        exact r_zret (μ := mL_law) (pc := 657) dL_law_657 rfl rfl h
    have h := h.2 q33
    refine ⟨fun q33 => ?_, fun q33 => ?_⟩
    · have h := h.1 q33
      refine r_aload_n (μ := mL_law) (pc := 658) dL_law_658 rfl rfl ?_
      refine r_aload_n (μ := mL_law) (pc := 659) dL_law_659 rfl rfl ?_
      refine r_iload_n (μ := mL_law) (pc := 660) dL_law_660 rfl rfl ?_
      refine r_iconst (μ := mL_law) (pc := 661) (v := nI 1) dL_law_661 rfl ?_
      refine r_iadd (μ := mL_law) (pc := 662) dL_law_662 ?_
      obtain ⟨n663, hx663, h⟩ := h
      refine r_script (μ := mL_law) (pc := 663) rfl dL_law_663 hx663 ?_
      refine r_aload_n (μ := mL_law) (pc := 664) dL_law_664 rfl rfl ?_
      refine r_iload_n (μ := mL_law) (pc := 665) dL_law_665 rfl rfl ?_
      refine r_iconst (μ := mL_law) (pc := 666) (v := nI 2) dL_law_666 rfl ?_
      refine r_iadd (μ := mL_law) (pc := 667) dL_law_667 ?_
      obtain ⟨n668, hx668, h⟩ := h
      refine r_script (μ := mL_law) (pc := 668) rfl dL_law_668 hx668 ?_
      refine r_callV (μ := mL_law) (pc := 669) (as := [.int (gX G n663), .int (gX G n668)]) 4 cL_74 dL_law_669 rfl rfl (Nat.le_of_ble_eq_true rfl) rfl okX4_step (Nat.lt_succ_self d) (cat8 (n := 0) rfl (by decide)) rfl h (k_I (fun r669 T669 h => ?_))
      refine r_aload_n (μ := mL_law) (pc := 672) dL_law_672 rfl rfl ?_
      refine r_aload_n (μ := mL_law) (pc := 673) dL_law_673 rfl rfl ?_
      refine r_iload_n (μ := mL_law) (pc := 674) dL_law_674 rfl rfl ?_
      refine r_iconst (μ := mL_law) (pc := 675) (v := nI 1) dL_law_675 rfl ?_
      refine r_iadd (μ := mL_law) (pc := 676) dL_law_676 ?_
      refine r_script (μ := mL_law) (pc := 677) rfl dL_law_677 hx663 ?_
      refine r_aload_n (μ := mL_law) (pc := 678) dL_law_678 rfl rfl ?_
      refine r_iload_n (μ := mL_law) (pc := 679) dL_law_679 rfl rfl ?_
      refine r_iconst (μ := mL_law) (pc := 680) (v := nI 2) dL_law_680 rfl ?_
      refine r_iadd (μ := mL_law) (pc := 681) dL_law_681 ?_
      refine r_script (μ := mL_law) (pc := 682) rfl dL_law_682 hx668 ?_
      refine r_callV (μ := mL_law) (pc := 683) (as := [.int (gX G n663), .int (gX G n668)]) 5 cL_77 dL_law_683 rfl rfl (Nat.le_of_ble_eq_true rfl) rfl okX5_step (Nat.lt_succ_self d) (cat8 (n := 1) rfl (by decide)) rfl h (k_I (fun r683 T683 h => ?_))
      refine r_icmp_eq (μ := mL_law) (pc := 686) (tgt := 1315) dL_law_686 (by decide) ⟨fun q686 => ?_, fun q686 => ?_⟩
      · have h := h.1 q686
        refine r_iinc (μ := mL_law) (pc := 1315) (y := nI 6) (ls' := [some (.ref 201), some (.ref 0), some (.ref 7), some (.int (i3 + (nI 6)))]) dL_law_1315 rfl rfl (Nat.le_of_ble_eq_true rfl) rfl rfl ?_
        refine r_goto (μ := mL_law) (pc := 1318) (tgt := 18) dL_law_1318 (by decide) ?_
        exact h
      · have h := h.2 q686
        refine r_iconst (μ := mL_law) (pc := 689) (v := nI 0) dL_law_689 rfl ?_
        exact r_zret (μ := mL_law) (pc := 690) dL_law_690 rfl rfl h
    have h := h.2 q33
    refine ⟨fun q33 => ?_, fun q33 => ?_⟩
    · have h := h.1 q33
      refine r_aload_n (μ := mL_law) (pc := 691) dL_law_691 rfl rfl ?_
      refine r_aload_n (μ := mL_law) (pc := 692) dL_law_692 rfl rfl ?_
      refine r_iload_n (μ := mL_law) (pc := 693) dL_law_693 rfl rfl ?_
      refine r_iconst (μ := mL_law) (pc := 694) (v := nI 1) dL_law_694 rfl ?_
      refine r_iadd (μ := mL_law) (pc := 695) dL_law_695 ?_
      obtain ⟨n696, hx696, h⟩ := h
      refine r_script (μ := mL_law) (pc := 696) rfl dL_law_696 hx696 ?_
      refine r_aload_n (μ := mL_law) (pc := 697) dL_law_697 rfl rfl ?_
      refine r_iload_n (μ := mL_law) (pc := 698) dL_law_698 rfl rfl ?_
      refine r_iconst (μ := mL_law) (pc := 699) (v := nI 2) dL_law_699 rfl ?_
      refine r_iadd (μ := mL_law) (pc := 700) dL_law_700 ?_
      obtain ⟨n701, hx701, h⟩ := h
      refine r_script (μ := mL_law) (pc := 701) rfl dL_law_701 hx701 ?_
      refine r_callV (μ := mL_law) (pc := 702) (as := [.int (gX G n696), .int (gX G n701)]) 4 cL_78 dL_law_702 rfl rfl (Nat.le_of_ble_eq_true rfl) rfl okX4_walk (Nat.lt_succ_self d) (cat8 (n := 0) rfl (by decide)) rfl h (k_I (fun r702 T702 h => ?_))
      refine r_aload_n (μ := mL_law) (pc := 705) dL_law_705 rfl rfl ?_
      refine r_aload_n (μ := mL_law) (pc := 706) dL_law_706 rfl rfl ?_
      refine r_iload_n (μ := mL_law) (pc := 707) dL_law_707 rfl rfl ?_
      refine r_iconst (μ := mL_law) (pc := 708) (v := nI 1) dL_law_708 rfl ?_
      refine r_iadd (μ := mL_law) (pc := 709) dL_law_709 ?_
      refine r_script (μ := mL_law) (pc := 710) rfl dL_law_710 hx696 ?_
      refine r_aload_n (μ := mL_law) (pc := 711) dL_law_711 rfl rfl ?_
      refine r_iload_n (μ := mL_law) (pc := 712) dL_law_712 rfl rfl ?_
      refine r_iconst (μ := mL_law) (pc := 713) (v := nI 2) dL_law_713 rfl ?_
      refine r_iadd (μ := mL_law) (pc := 714) dL_law_714 ?_
      refine r_script (μ := mL_law) (pc := 715) rfl dL_law_715 hx701 ?_
      refine r_callV (μ := mL_law) (pc := 716) (as := [.int (gX G n696), .int (gX G n701)]) 5 cL_81 dL_law_716 rfl rfl (Nat.le_of_ble_eq_true rfl) rfl okX5_walk (Nat.lt_succ_self d) (cat8 (n := 1) rfl (by decide)) rfl h (k_I (fun r716 T716 h => ?_))
      refine r_icmp_eq (μ := mL_law) (pc := 719) (tgt := 1315) dL_law_719 (by decide) ⟨fun q719 => ?_, fun q719 => ?_⟩
      · have h := h.1 q719
        refine r_iinc (μ := mL_law) (pc := 1315) (y := nI 6) (ls' := [some (.ref 201), some (.ref 0), some (.ref 7), some (.int (i3 + (nI 6)))]) dL_law_1315 rfl rfl (Nat.le_of_ble_eq_true rfl) rfl rfl ?_
        refine r_goto (μ := mL_law) (pc := 1318) (tgt := 18) dL_law_1318 (by decide) ?_
        exact h
      · have h := h.2 q719
        refine r_iconst (μ := mL_law) (pc := 722) (v := nI 0) dL_law_722 rfl ?_
        exact r_zret (μ := mL_law) (pc := 723) dL_law_723 rfl rfl h
    have h := h.2 q33
    refine ⟨fun q33 => ?_, fun q33 => ?_⟩
    · have h := h.1 q33
      refine r_aload_n (μ := mL_law) (pc := 724) dL_law_724 rfl rfl ?_
      refine r_aload_n (μ := mL_law) (pc := 725) dL_law_725 rfl rfl ?_
      refine r_iload_n (μ := mL_law) (pc := 726) dL_law_726 rfl rfl ?_
      refine r_iconst (μ := mL_law) (pc := 727) (v := nI 1) dL_law_727 rfl ?_
      refine r_iadd (μ := mL_law) (pc := 728) dL_law_728 ?_
      obtain ⟨n729, hx729, h⟩ := h
      refine r_script (μ := mL_law) (pc := 729) rfl dL_law_729 hx729 ?_
      refine r_callV (μ := mL_law) (pc := 730) (as := [.int (gX G n729)]) 4 cL_82 dL_law_730 rfl rfl (Nat.le_of_ble_eq_true rfl) rfl okX4_undo (Nat.lt_succ_self d) (cat8 (n := 0) rfl (by decide)) rfl h (k_I (fun r730 T730 h => ?_))
      refine r_aload_n (μ := mL_law) (pc := 733) dL_law_733 rfl rfl ?_
      refine r_aload_n (μ := mL_law) (pc := 734) dL_law_734 rfl rfl ?_
      refine r_iload_n (μ := mL_law) (pc := 735) dL_law_735 rfl rfl ?_
      refine r_iconst (μ := mL_law) (pc := 736) (v := nI 1) dL_law_736 rfl ?_
      refine r_iadd (μ := mL_law) (pc := 737) dL_law_737 ?_
      refine r_script (μ := mL_law) (pc := 738) rfl dL_law_738 hx729 ?_
      refine r_callV (μ := mL_law) (pc := 739) (as := [.int (gX G n729)]) 5 cL_85 dL_law_739 rfl rfl (Nat.le_of_ble_eq_true rfl) rfl okX5_undo (Nat.lt_succ_self d) (cat8 (n := 1) rfl (by decide)) rfl h (k_I (fun r739 T739 h => ?_))
      refine r_icmp_eq (μ := mL_law) (pc := 742) (tgt := 1315) dL_law_742 (by decide) ⟨fun q742 => ?_, fun q742 => ?_⟩
      · have h := h.1 q742
        refine r_iinc (μ := mL_law) (pc := 1315) (y := nI 6) (ls' := [some (.ref 201), some (.ref 0), some (.ref 7), some (.int (i3 + (nI 6)))]) dL_law_1315 rfl rfl (Nat.le_of_ble_eq_true rfl) rfl rfl ?_
        refine r_goto (μ := mL_law) (pc := 1318) (tgt := 18) dL_law_1318 (by decide) ?_
        exact h
      · have h := h.2 q742
        refine r_iconst (μ := mL_law) (pc := 745) (v := nI 0) dL_law_745 rfl ?_
        exact r_zret (μ := mL_law) (pc := 746) dL_law_746 rfl rfl h
    have h := h.2 q33
    refine ⟨fun q33 => ?_, fun q33 => ?_⟩
    · have h := h.1 q33
      refine r_aload_n (μ := mL_law) (pc := 747) dL_law_747 rfl rfl ?_
      refine r_aload_n (μ := mL_law) (pc := 748) dL_law_748 rfl rfl ?_
      refine r_iload_n (μ := mL_law) (pc := 749) dL_law_749 rfl rfl ?_
      refine r_iconst (μ := mL_law) (pc := 750) (v := nI 1) dL_law_750 rfl ?_
      refine r_iadd (μ := mL_law) (pc := 751) dL_law_751 ?_
      obtain ⟨n752, hx752, h⟩ := h
      refine r_script (μ := mL_law) (pc := 752) rfl dL_law_752 hx752 ?_
      refine r_callV (μ := mL_law) (pc := 753) (as := [.int (gX G n752)]) 4 cL_86 dL_law_753 rfl rfl (Nat.le_of_ble_eq_true rfl) rfl okX4_keep (Nat.lt_succ_self d) (cat8 (n := 0) rfl (by decide)) rfl h (k_I (fun r753 T753 h => ?_))
      refine r_aload_n (μ := mL_law) (pc := 756) dL_law_756 rfl rfl ?_
      refine r_aload_n (μ := mL_law) (pc := 757) dL_law_757 rfl rfl ?_
      refine r_iload_n (μ := mL_law) (pc := 758) dL_law_758 rfl rfl ?_
      refine r_iconst (μ := mL_law) (pc := 759) (v := nI 1) dL_law_759 rfl ?_
      refine r_iadd (μ := mL_law) (pc := 760) dL_law_760 ?_
      refine r_script (μ := mL_law) (pc := 761) rfl dL_law_761 hx752 ?_
      refine r_callV (μ := mL_law) (pc := 762) (as := [.int (gX G n752)]) 5 cL_89 dL_law_762 rfl rfl (Nat.le_of_ble_eq_true rfl) rfl okX5_keep (Nat.lt_succ_self d) (cat8 (n := 1) rfl (by decide)) rfl h (k_I (fun r762 T762 h => ?_))
      refine r_icmp_eq (μ := mL_law) (pc := 765) (tgt := 1315) dL_law_765 (by decide) ⟨fun q765 => ?_, fun q765 => ?_⟩
      · have h := h.1 q765
        refine r_iinc (μ := mL_law) (pc := 1315) (y := nI 6) (ls' := [some (.ref 201), some (.ref 0), some (.ref 7), some (.int (i3 + (nI 6)))]) dL_law_1315 rfl rfl (Nat.le_of_ble_eq_true rfl) rfl rfl ?_
        refine r_goto (μ := mL_law) (pc := 1318) (tgt := 18) dL_law_1318 (by decide) ?_
        exact h
      · have h := h.2 q765
        refine r_iconst (μ := mL_law) (pc := 768) (v := nI 0) dL_law_768 rfl ?_
        exact r_zret (μ := mL_law) (pc := 769) dL_law_769 rfl rfl h
    have h := h.2 q33
    refine ⟨fun q33 => ?_, fun q33 => ?_⟩
    · have h := h.1 q33
      refine r_aload_n (μ := mL_law) (pc := 770) dL_law_770 rfl rfl ?_
      refine r_aload_n (μ := mL_law) (pc := 771) dL_law_771 rfl rfl ?_
      refine r_iload_n (μ := mL_law) (pc := 772) dL_law_772 rfl rfl ?_
      refine r_iconst (μ := mL_law) (pc := 773) (v := nI 1) dL_law_773 rfl ?_
      refine r_iadd (μ := mL_law) (pc := 774) dL_law_774 ?_
      obtain ⟨n775, hx775, h⟩ := h
      refine r_script (μ := mL_law) (pc := 775) rfl dL_law_775 hx775 ?_
      refine r_callV (μ := mL_law) (pc := 776) (as := [.int (gX G n775)]) 4 cL_90 dL_law_776 rfl rfl (Nat.le_of_ble_eq_true rfl) rfl okX4_on (Nat.lt_succ_self d) (cat8 (n := 0) rfl (by decide)) rfl h (k_I (fun r776 T776 h => ?_))
      refine r_aload_n (μ := mL_law) (pc := 779) dL_law_779 rfl rfl ?_
      refine r_aload_n (μ := mL_law) (pc := 780) dL_law_780 rfl rfl ?_
      refine r_iload_n (μ := mL_law) (pc := 781) dL_law_781 rfl rfl ?_
      refine r_iconst (μ := mL_law) (pc := 782) (v := nI 1) dL_law_782 rfl ?_
      refine r_iadd (μ := mL_law) (pc := 783) dL_law_783 ?_
      refine r_script (μ := mL_law) (pc := 784) rfl dL_law_784 hx775 ?_
      refine r_callV (μ := mL_law) (pc := 785) (as := [.int (gX G n775)]) 5 cL_93 dL_law_785 rfl rfl (Nat.le_of_ble_eq_true rfl) rfl okX5_on (Nat.lt_succ_self d) (cat8 (n := 1) rfl (by decide)) rfl h (k_I (fun r785 T785 h => ?_))
      refine r_icmp_eq (μ := mL_law) (pc := 788) (tgt := 1315) dL_law_788 (by decide) ⟨fun q788 => ?_, fun q788 => ?_⟩
      · have h := h.1 q788
        refine r_iinc (μ := mL_law) (pc := 1315) (y := nI 6) (ls' := [some (.ref 201), some (.ref 0), some (.ref 7), some (.int (i3 + (nI 6)))]) dL_law_1315 rfl rfl (Nat.le_of_ble_eq_true rfl) rfl rfl ?_
        refine r_goto (μ := mL_law) (pc := 1318) (tgt := 18) dL_law_1318 (by decide) ?_
        exact h
      · have h := h.2 q788
        refine r_iconst (μ := mL_law) (pc := 791) (v := nI 0) dL_law_791 rfl ?_
        exact r_zret (μ := mL_law) (pc := 792) dL_law_792 rfl rfl h
    have h := h.2 q33
    refine ⟨fun q33 => ?_, fun q33 => ?_⟩
    · have h := h.1 q33
      refine r_aload_n (μ := mL_law) (pc := 793) dL_law_793 rfl rfl ?_
      refine r_callV (μ := mL_law) (pc := 794) (as := []) 4 cL_94 dL_law_794 rfl rfl (Nat.le_of_ble_eq_true rfl) rfl okX4_belong (Nat.lt_succ_self d) (cat8 (n := 0) rfl (by decide)) rfl h (k_I (fun r794 T794 h => ?_))
      refine r_aload_n (μ := mL_law) (pc := 797) dL_law_797 rfl rfl ?_
      refine r_callV (μ := mL_law) (pc := 798) (as := []) 5 cL_97 dL_law_798 rfl rfl (Nat.le_of_ble_eq_true rfl) rfl okX5_belong (Nat.lt_succ_self d) (cat8 (n := 1) rfl (by decide)) rfl h (k_I (fun r798 T798 h => ?_))
      refine r_icmp_eq (μ := mL_law) (pc := 801) (tgt := 1315) dL_law_801 (by decide) ⟨fun q801 => ?_, fun q801 => ?_⟩
      · have h := h.1 q801
        refine r_iinc (μ := mL_law) (pc := 1315) (y := nI 6) (ls' := [some (.ref 201), some (.ref 0), some (.ref 7), some (.int (i3 + (nI 6)))]) dL_law_1315 rfl rfl (Nat.le_of_ble_eq_true rfl) rfl rfl ?_
        refine r_goto (μ := mL_law) (pc := 1318) (tgt := 18) dL_law_1318 (by decide) ?_
        exact h
      · have h := h.2 q801
        refine r_iconst (μ := mL_law) (pc := 804) (v := nI 0) dL_law_804 rfl ?_
        exact r_zret (μ := mL_law) (pc := 805) dL_law_805 rfl rfl h
    have h := h.2 q33
    refine ⟨fun q33 => ?_, fun q33 => ?_⟩
    · have h := h.1 q33
      refine r_aload_n (μ := mL_law) (pc := 806) dL_law_806 rfl rfl ?_
      refine r_callV (μ := mL_law) (pc := 807) (as := []) 4 cL_98 dL_law_807 rfl rfl (Nat.le_of_ble_eq_true rfl) rfl okX4_laws (Nat.lt_succ_self d) (cat8 (n := 0) rfl (by decide)) rfl h (k_I (fun r807 T807 h => ?_))
      refine r_aload_n (μ := mL_law) (pc := 810) dL_law_810 rfl rfl ?_
      refine r_callV (μ := mL_law) (pc := 811) (as := []) 5 cL_101 dL_law_811 rfl rfl (Nat.le_of_ble_eq_true rfl) rfl okX5_laws (Nat.lt_succ_self d) (cat8 (n := 1) rfl (by decide)) rfl h (k_I (fun r811 T811 h => ?_))
      refine r_icmp_eq (μ := mL_law) (pc := 814) (tgt := 1315) dL_law_814 (by decide) ⟨fun q814 => ?_, fun q814 => ?_⟩
      · have h := h.1 q814
        refine r_iinc (μ := mL_law) (pc := 1315) (y := nI 6) (ls' := [some (.ref 201), some (.ref 0), some (.ref 7), some (.int (i3 + (nI 6)))]) dL_law_1315 rfl rfl (Nat.le_of_ble_eq_true rfl) rfl rfl ?_
        refine r_goto (μ := mL_law) (pc := 1318) (tgt := 18) dL_law_1318 (by decide) ?_
        exact h
      · have h := h.2 q814
        refine r_iconst (μ := mL_law) (pc := 817) (v := nI 0) dL_law_817 rfl ?_
        exact r_zret (μ := mL_law) (pc := 818) dL_law_818 rfl rfl h
    have h := h.2 q33
    refine ⟨fun q33 => ?_, fun q33 => ?_⟩
    · have h := h.1 q33
      refine r_aload_n (μ := mL_law) (pc := 819) dL_law_819 rfl rfl ?_
      refine r_aload_n (μ := mL_law) (pc := 820) dL_law_820 rfl rfl ?_
      refine r_iload_n (μ := mL_law) (pc := 821) dL_law_821 rfl rfl ?_
      refine r_iconst (μ := mL_law) (pc := 822) (v := nI 1) dL_law_822 rfl ?_
      refine r_iadd (μ := mL_law) (pc := 823) dL_law_823 ?_
      obtain ⟨n824, hx824, h⟩ := h
      refine r_script (μ := mL_law) (pc := 824) rfl dL_law_824 hx824 ?_
      refine r_aload_n (μ := mL_law) (pc := 825) dL_law_825 rfl rfl ?_
      refine r_iload_n (μ := mL_law) (pc := 826) dL_law_826 rfl rfl ?_
      refine r_iconst (μ := mL_law) (pc := 827) (v := nI 2) dL_law_827 rfl ?_
      refine r_iadd (μ := mL_law) (pc := 828) dL_law_828 ?_
      obtain ⟨n829, hx829, h⟩ := h
      refine r_script (μ := mL_law) (pc := 829) rfl dL_law_829 hx829 ?_
      refine r_callV (μ := mL_law) (pc := 830) (as := [.int (gX G n824), .int (gX G n829)]) 4 cL_102 dL_law_830 rfl rfl (Nat.le_of_ble_eq_true rfl) rfl okX4_seats (Nat.lt_succ_self d) (cat8 (n := 0) rfl (by decide)) rfl h (k_I (fun r830 T830 h => ?_))
      refine r_aload_n (μ := mL_law) (pc := 833) dL_law_833 rfl rfl ?_
      refine r_aload_n (μ := mL_law) (pc := 834) dL_law_834 rfl rfl ?_
      refine r_iload_n (μ := mL_law) (pc := 835) dL_law_835 rfl rfl ?_
      refine r_iconst (μ := mL_law) (pc := 836) (v := nI 1) dL_law_836 rfl ?_
      refine r_iadd (μ := mL_law) (pc := 837) dL_law_837 ?_
      refine r_script (μ := mL_law) (pc := 838) rfl dL_law_838 hx824 ?_
      refine r_aload_n (μ := mL_law) (pc := 839) dL_law_839 rfl rfl ?_
      refine r_iload_n (μ := mL_law) (pc := 840) dL_law_840 rfl rfl ?_
      refine r_iconst (μ := mL_law) (pc := 841) (v := nI 2) dL_law_841 rfl ?_
      refine r_iadd (μ := mL_law) (pc := 842) dL_law_842 ?_
      refine r_script (μ := mL_law) (pc := 843) rfl dL_law_843 hx829 ?_
      refine r_callV (μ := mL_law) (pc := 844) (as := [.int (gX G n824), .int (gX G n829)]) 5 cL_105 dL_law_844 rfl rfl (Nat.le_of_ble_eq_true rfl) rfl okX5_seats (Nat.lt_succ_self d) (cat8 (n := 1) rfl (by decide)) rfl h (k_I (fun r844 T844 h => ?_))
      refine r_icmp_eq (μ := mL_law) (pc := 847) (tgt := 1315) dL_law_847 (by decide) ⟨fun q847 => ?_, fun q847 => ?_⟩
      · have h := h.1 q847
        refine r_iinc (μ := mL_law) (pc := 1315) (y := nI 6) (ls' := [some (.ref 201), some (.ref 0), some (.ref 7), some (.int (i3 + (nI 6)))]) dL_law_1315 rfl rfl (Nat.le_of_ble_eq_true rfl) rfl rfl ?_
        refine r_goto (μ := mL_law) (pc := 1318) (tgt := 18) dL_law_1318 (by decide) ?_
        exact h
      · have h := h.2 q847
        refine r_iconst (μ := mL_law) (pc := 850) (v := nI 0) dL_law_850 rfl ?_
        exact r_zret (μ := mL_law) (pc := 851) dL_law_851 rfl rfl h
    have h := h.2 q33
    refine ⟨fun q33 => ?_, fun q33 => ?_⟩
    · have h := h.1 q33
      refine r_aload_n (μ := mL_law) (pc := 852) dL_law_852 rfl rfl ?_
      refine r_callV (μ := mL_law) (pc := 853) (as := []) 4 cL_106 dL_law_853 rfl rfl (Nat.le_of_ble_eq_true rfl) rfl okX4_fewest (Nat.lt_succ_self d) (cat8 (n := 0) rfl (by decide)) rfl h (k_I (fun r853 T853 h => ?_))
      refine r_aload_n (μ := mL_law) (pc := 856) dL_law_856 rfl rfl ?_
      refine r_callV (μ := mL_law) (pc := 857) (as := []) 5 cL_109 dL_law_857 rfl rfl (Nat.le_of_ble_eq_true rfl) rfl okX5_fewest (Nat.lt_succ_self d) (cat8 (n := 1) rfl (by decide)) rfl h (k_I (fun r857 T857 h => ?_))
      refine r_icmp_eq (μ := mL_law) (pc := 860) (tgt := 1315) dL_law_860 (by decide) ⟨fun q860 => ?_, fun q860 => ?_⟩
      · have h := h.1 q860
        refine r_iinc (μ := mL_law) (pc := 1315) (y := nI 6) (ls' := [some (.ref 201), some (.ref 0), some (.ref 7), some (.int (i3 + (nI 6)))]) dL_law_1315 rfl rfl (Nat.le_of_ble_eq_true rfl) rfl rfl ?_
        refine r_goto (μ := mL_law) (pc := 1318) (tgt := 18) dL_law_1318 (by decide) ?_
        exact h
      · have h := h.2 q860
        refine r_iconst (μ := mL_law) (pc := 863) (v := nI 0) dL_law_863 rfl ?_
        exact r_zret (μ := mL_law) (pc := 864) dL_law_864 rfl rfl h
    have h := h.2 q33
    refine ⟨fun q33 => ?_, fun q33 => ?_⟩
    · have h := h.1 q33
      refine r_aload_n (μ := mL_law) (pc := 865) dL_law_865 rfl rfl ?_
      refine r_aload_n (μ := mL_law) (pc := 866) dL_law_866 rfl rfl ?_
      refine r_iload_n (μ := mL_law) (pc := 867) dL_law_867 rfl rfl ?_
      refine r_iconst (μ := mL_law) (pc := 868) (v := nI 1) dL_law_868 rfl ?_
      refine r_iadd (μ := mL_law) (pc := 869) dL_law_869 ?_
      obtain ⟨n870, hx870, h⟩ := h
      refine r_script (μ := mL_law) (pc := 870) rfl dL_law_870 hx870 ?_
      refine r_callV (μ := mL_law) (pc := 871) (as := [.int (gX G n870)]) 4 cL_110 dL_law_871 rfl rfl (Nat.le_of_ble_eq_true rfl) rfl okX4_then (Nat.lt_succ_self d) (cat8 (n := 0) rfl (by decide)) rfl h (k_I (fun r871 T871 h => ?_))
      refine r_aload_n (μ := mL_law) (pc := 874) dL_law_874 rfl rfl ?_
      refine r_aload_n (μ := mL_law) (pc := 875) dL_law_875 rfl rfl ?_
      refine r_iload_n (μ := mL_law) (pc := 876) dL_law_876 rfl rfl ?_
      refine r_iconst (μ := mL_law) (pc := 877) (v := nI 1) dL_law_877 rfl ?_
      refine r_iadd (μ := mL_law) (pc := 878) dL_law_878 ?_
      refine r_script (μ := mL_law) (pc := 879) rfl dL_law_879 hx870 ?_
      refine r_callV (μ := mL_law) (pc := 880) (as := [.int (gX G n870)]) 5 cL_113 dL_law_880 rfl rfl (Nat.le_of_ble_eq_true rfl) rfl okX5_then (Nat.lt_succ_self d) (cat8 (n := 1) rfl (by decide)) rfl h (k_I (fun r880 T880 h => ?_))
      refine r_icmp_eq (μ := mL_law) (pc := 883) (tgt := 1315) dL_law_883 (by decide) ⟨fun q883 => ?_, fun q883 => ?_⟩
      · have h := h.1 q883
        refine r_iinc (μ := mL_law) (pc := 1315) (y := nI 6) (ls' := [some (.ref 201), some (.ref 0), some (.ref 7), some (.int (i3 + (nI 6)))]) dL_law_1315 rfl rfl (Nat.le_of_ble_eq_true rfl) rfl rfl ?_
        refine r_goto (μ := mL_law) (pc := 1318) (tgt := 18) dL_law_1318 (by decide) ?_
        exact h
      · have h := h.2 q883
        refine r_iconst (μ := mL_law) (pc := 886) (v := nI 0) dL_law_886 rfl ?_
        exact r_zret (μ := mL_law) (pc := 887) dL_law_887 rfl rfl h
    have h := h.2 q33
    refine ⟨fun q33 => ?_, fun q33 => ?_⟩
    · have h := h.1 q33
      refine r_aload_n (μ := mL_law) (pc := 888) dL_law_888 rfl rfl ?_
      refine r_aload_n (μ := mL_law) (pc := 889) dL_law_889 rfl rfl ?_
      refine r_iload_n (μ := mL_law) (pc := 890) dL_law_890 rfl rfl ?_
      refine r_iconst (μ := mL_law) (pc := 891) (v := nI 1) dL_law_891 rfl ?_
      refine r_iadd (μ := mL_law) (pc := 892) dL_law_892 ?_
      obtain ⟨n893, hx893, h⟩ := h
      refine r_script (μ := mL_law) (pc := 893) rfl dL_law_893 hx893 ?_
      refine r_aload_n (μ := mL_law) (pc := 894) dL_law_894 rfl rfl ?_
      refine r_iload_n (μ := mL_law) (pc := 895) dL_law_895 rfl rfl ?_
      refine r_iconst (μ := mL_law) (pc := 896) (v := nI 2) dL_law_896 rfl ?_
      refine r_iadd (μ := mL_law) (pc := 897) dL_law_897 ?_
      obtain ⟨n898, hx898, h⟩ := h
      refine r_script (μ := mL_law) (pc := 898) rfl dL_law_898 hx898 ?_
      refine r_callV (μ := mL_law) (pc := 899) (as := [.int (gX G n893), .int (gX G n898)]) 4 cL_114 dL_law_899 rfl rfl (Nat.le_of_ble_eq_true rfl) rfl okX4_when (Nat.lt_succ_self d) (cat8 (n := 0) rfl (by decide)) rfl h (k_I (fun r899 T899 h => ?_))
      refine r_aload_n (μ := mL_law) (pc := 902) dL_law_902 rfl rfl ?_
      refine r_aload_n (μ := mL_law) (pc := 903) dL_law_903 rfl rfl ?_
      refine r_iload_n (μ := mL_law) (pc := 904) dL_law_904 rfl rfl ?_
      refine r_iconst (μ := mL_law) (pc := 905) (v := nI 1) dL_law_905 rfl ?_
      refine r_iadd (μ := mL_law) (pc := 906) dL_law_906 ?_
      refine r_script (μ := mL_law) (pc := 907) rfl dL_law_907 hx893 ?_
      refine r_aload_n (μ := mL_law) (pc := 908) dL_law_908 rfl rfl ?_
      refine r_iload_n (μ := mL_law) (pc := 909) dL_law_909 rfl rfl ?_
      refine r_iconst (μ := mL_law) (pc := 910) (v := nI 2) dL_law_910 rfl ?_
      refine r_iadd (μ := mL_law) (pc := 911) dL_law_911 ?_
      refine r_script (μ := mL_law) (pc := 912) rfl dL_law_912 hx898 ?_
      refine r_callV (μ := mL_law) (pc := 913) (as := [.int (gX G n893), .int (gX G n898)]) 5 cL_117 dL_law_913 rfl rfl (Nat.le_of_ble_eq_true rfl) rfl okX5_when (Nat.lt_succ_self d) (cat8 (n := 1) rfl (by decide)) rfl h (k_I (fun r913 T913 h => ?_))
      refine r_icmp_eq (μ := mL_law) (pc := 916) (tgt := 1315) dL_law_916 (by decide) ⟨fun q916 => ?_, fun q916 => ?_⟩
      · have h := h.1 q916
        refine r_iinc (μ := mL_law) (pc := 1315) (y := nI 6) (ls' := [some (.ref 201), some (.ref 0), some (.ref 7), some (.int (i3 + (nI 6)))]) dL_law_1315 rfl rfl (Nat.le_of_ble_eq_true rfl) rfl rfl ?_
        refine r_goto (μ := mL_law) (pc := 1318) (tgt := 18) dL_law_1318 (by decide) ?_
        exact h
      · have h := h.2 q916
        refine r_iconst (μ := mL_law) (pc := 919) (v := nI 0) dL_law_919 rfl ?_
        exact r_zret (μ := mL_law) (pc := 920) dL_law_920 rfl rfl h
    have h := h.2 q33
    refine ⟨fun q33 => ?_, fun q33 => ?_⟩
    · have h := h.1 q33
      refine r_aload_n (μ := mL_law) (pc := 921) dL_law_921 rfl rfl ?_
      refine r_callV (μ := mL_law) (pc := 922) (as := []) 4 cL_118 dL_law_922 rfl rfl (Nat.le_of_ble_eq_true rfl) rfl okX4_round (Nat.lt_succ_self d) (cat8 (n := 0) rfl (by decide)) rfl h (k_I (fun r922 T922 h => ?_))
      refine r_aload_n (μ := mL_law) (pc := 925) dL_law_925 rfl rfl ?_
      refine r_callV (μ := mL_law) (pc := 926) (as := []) 5 cL_121 dL_law_926 rfl rfl (Nat.le_of_ble_eq_true rfl) rfl okX5_round (Nat.lt_succ_self d) (cat8 (n := 1) rfl (by decide)) rfl h (k_I (fun r926 T926 h => ?_))
      refine r_icmp_eq (μ := mL_law) (pc := 929) (tgt := 1315) dL_law_929 (by decide) ⟨fun q929 => ?_, fun q929 => ?_⟩
      · have h := h.1 q929
        refine r_iinc (μ := mL_law) (pc := 1315) (y := nI 6) (ls' := [some (.ref 201), some (.ref 0), some (.ref 7), some (.int (i3 + (nI 6)))]) dL_law_1315 rfl rfl (Nat.le_of_ble_eq_true rfl) rfl rfl ?_
        refine r_goto (μ := mL_law) (pc := 1318) (tgt := 18) dL_law_1318 (by decide) ?_
        exact h
      · have h := h.2 q929
        refine r_iconst (μ := mL_law) (pc := 932) (v := nI 0) dL_law_932 rfl ?_
        exact r_zret (μ := mL_law) (pc := 933) dL_law_933 rfl rfl h
    have h := h.2 q33
    refine ⟨fun q33 => ?_, fun q33 => ?_⟩
    · have h := h.1 q33
      refine r_aload_n (μ := mL_law) (pc := 934) dL_law_934 rfl rfl ?_
      refine r_aload_n (μ := mL_law) (pc := 935) dL_law_935 rfl rfl ?_
      refine r_iload_n (μ := mL_law) (pc := 936) dL_law_936 rfl rfl ?_
      refine r_iconst (μ := mL_law) (pc := 937) (v := nI 1) dL_law_937 rfl ?_
      refine r_iadd (μ := mL_law) (pc := 938) dL_law_938 ?_
      obtain ⟨n939, hx939, h⟩ := h
      refine r_script (μ := mL_law) (pc := 939) rfl dL_law_939 hx939 ?_
      refine r_callV (μ := mL_law) (pc := 940) (as := [.int (gX G n939)]) 4 cL_122 dL_law_940 rfl rfl (Nat.le_of_ble_eq_true rfl) rfl okX4_duel (Nat.lt_succ_self d) (cat8 (n := 0) rfl (by decide)) rfl h (k_I (fun r940 T940 h => ?_))
      refine r_aload_n (μ := mL_law) (pc := 943) dL_law_943 rfl rfl ?_
      refine r_aload_n (μ := mL_law) (pc := 944) dL_law_944 rfl rfl ?_
      refine r_iload_n (μ := mL_law) (pc := 945) dL_law_945 rfl rfl ?_
      refine r_iconst (μ := mL_law) (pc := 946) (v := nI 1) dL_law_946 rfl ?_
      refine r_iadd (μ := mL_law) (pc := 947) dL_law_947 ?_
      refine r_script (μ := mL_law) (pc := 948) rfl dL_law_948 hx939 ?_
      refine r_callV (μ := mL_law) (pc := 949) (as := [.int (gX G n939)]) 5 cL_125 dL_law_949 rfl rfl (Nat.le_of_ble_eq_true rfl) rfl okX5_duel (Nat.lt_succ_self d) (cat8 (n := 1) rfl (by decide)) rfl h (k_I (fun r949 T949 h => ?_))
      refine r_icmp_eq (μ := mL_law) (pc := 952) (tgt := 1315) dL_law_952 (by decide) ⟨fun q952 => ?_, fun q952 => ?_⟩
      · have h := h.1 q952
        refine r_iinc (μ := mL_law) (pc := 1315) (y := nI 6) (ls' := [some (.ref 201), some (.ref 0), some (.ref 7), some (.int (i3 + (nI 6)))]) dL_law_1315 rfl rfl (Nat.le_of_ble_eq_true rfl) rfl rfl ?_
        refine r_goto (μ := mL_law) (pc := 1318) (tgt := 18) dL_law_1318 (by decide) ?_
        exact h
      · have h := h.2 q952
        refine r_iconst (μ := mL_law) (pc := 955) (v := nI 0) dL_law_955 rfl ?_
        exact r_zret (μ := mL_law) (pc := 956) dL_law_956 rfl rfl h
    have h := h.2 q33
    refine ⟨fun q33 => ?_, fun q33 => ?_⟩
    · have h := h.1 q33
      refine r_aload_n (μ := mL_law) (pc := 957) dL_law_957 rfl rfl ?_
      refine r_aload_n (μ := mL_law) (pc := 958) dL_law_958 rfl rfl ?_
      refine r_iload_n (μ := mL_law) (pc := 959) dL_law_959 rfl rfl ?_
      refine r_iconst (μ := mL_law) (pc := 960) (v := nI 1) dL_law_960 rfl ?_
      refine r_iadd (μ := mL_law) (pc := 961) dL_law_961 ?_
      obtain ⟨n962, hx962, h⟩ := h
      refine r_script (μ := mL_law) (pc := 962) rfl dL_law_962 hx962 ?_
      refine r_aload_n (μ := mL_law) (pc := 963) dL_law_963 rfl rfl ?_
      refine r_iload_n (μ := mL_law) (pc := 964) dL_law_964 rfl rfl ?_
      refine r_iconst (μ := mL_law) (pc := 965) (v := nI 2) dL_law_965 rfl ?_
      refine r_iadd (μ := mL_law) (pc := 966) dL_law_966 ?_
      obtain ⟨n967, hx967, h⟩ := h
      refine r_script (μ := mL_law) (pc := 967) rfl dL_law_967 hx967 ?_
      refine r_callV (μ := mL_law) (pc := 968) (as := [.int (gX G n962), .int (gX G n967)]) 4 cL_126 dL_law_968 rfl rfl (Nat.le_of_ble_eq_true rfl) rfl okX4_peace (Nat.lt_succ_self d) (cat8 (n := 0) rfl (by decide)) rfl h (k_I (fun r968 T968 h => ?_))
      refine r_aload_n (μ := mL_law) (pc := 971) dL_law_971 rfl rfl ?_
      refine r_aload_n (μ := mL_law) (pc := 972) dL_law_972 rfl rfl ?_
      refine r_iload_n (μ := mL_law) (pc := 973) dL_law_973 rfl rfl ?_
      refine r_iconst (μ := mL_law) (pc := 974) (v := nI 1) dL_law_974 rfl ?_
      refine r_iadd (μ := mL_law) (pc := 975) dL_law_975 ?_
      refine r_script (μ := mL_law) (pc := 976) rfl dL_law_976 hx962 ?_
      refine r_aload_n (μ := mL_law) (pc := 977) dL_law_977 rfl rfl ?_
      refine r_iload_n (μ := mL_law) (pc := 978) dL_law_978 rfl rfl ?_
      refine r_iconst (μ := mL_law) (pc := 979) (v := nI 2) dL_law_979 rfl ?_
      refine r_iadd (μ := mL_law) (pc := 980) dL_law_980 ?_
      refine r_script (μ := mL_law) (pc := 981) rfl dL_law_981 hx967 ?_
      refine r_callV (μ := mL_law) (pc := 982) (as := [.int (gX G n962), .int (gX G n967)]) 5 cL_129 dL_law_982 rfl rfl (Nat.le_of_ble_eq_true rfl) rfl okX5_peace (Nat.lt_succ_self d) (cat8 (n := 1) rfl (by decide)) rfl h (k_I (fun r982 T982 h => ?_))
      refine r_icmp_eq (μ := mL_law) (pc := 985) (tgt := 1315) dL_law_985 (by decide) ⟨fun q985 => ?_, fun q985 => ?_⟩
      · have h := h.1 q985
        refine r_iinc (μ := mL_law) (pc := 1315) (y := nI 6) (ls' := [some (.ref 201), some (.ref 0), some (.ref 7), some (.int (i3 + (nI 6)))]) dL_law_1315 rfl rfl (Nat.le_of_ble_eq_true rfl) rfl rfl ?_
        refine r_goto (μ := mL_law) (pc := 1318) (tgt := 18) dL_law_1318 (by decide) ?_
        exact h
      · have h := h.2 q985
        refine r_iconst (μ := mL_law) (pc := 988) (v := nI 0) dL_law_988 rfl ?_
        exact r_zret (μ := mL_law) (pc := 989) dL_law_989 rfl rfl h
    have h := h.2 q33
    refine ⟨fun q33 => ?_, fun q33 => ?_⟩
    · have h := h.1 q33
      refine r_aload_n (μ := mL_law) (pc := 990) dL_law_990 rfl rfl ?_
      refine r_aload_n (μ := mL_law) (pc := 991) dL_law_991 rfl rfl ?_
      refine r_iload_n (μ := mL_law) (pc := 992) dL_law_992 rfl rfl ?_
      refine r_iconst (μ := mL_law) (pc := 993) (v := nI 1) dL_law_993 rfl ?_
      refine r_iadd (μ := mL_law) (pc := 994) dL_law_994 ?_
      obtain ⟨n995, hx995, h⟩ := h
      refine r_script (μ := mL_law) (pc := 995) rfl dL_law_995 hx995 ?_
      refine r_aload_n (μ := mL_law) (pc := 996) dL_law_996 rfl rfl ?_
      refine r_iload_n (μ := mL_law) (pc := 997) dL_law_997 rfl rfl ?_
      refine r_iconst (μ := mL_law) (pc := 998) (v := nI 2) dL_law_998 rfl ?_
      refine r_iadd (μ := mL_law) (pc := 999) dL_law_999 ?_
      obtain ⟨n1000, hx1000, h⟩ := h
      refine r_script (μ := mL_law) (pc := 1000) rfl dL_law_1000 hx1000 ?_
      refine r_callV (μ := mL_law) (pc := 1001) (as := [.int (gX G n995), .int (gX G n1000)]) 4 cL_130 dL_law_1001 rfl rfl (Nat.le_of_ble_eq_true rfl) rfl okX4_way (Nat.lt_succ_self d) (cat8 (n := 0) rfl (by decide)) rfl h (k_I (fun r1001 T1001 h => ?_))
      refine r_aload_n (μ := mL_law) (pc := 1004) dL_law_1004 rfl rfl ?_
      refine r_aload_n (μ := mL_law) (pc := 1005) dL_law_1005 rfl rfl ?_
      refine r_iload_n (μ := mL_law) (pc := 1006) dL_law_1006 rfl rfl ?_
      refine r_iconst (μ := mL_law) (pc := 1007) (v := nI 1) dL_law_1007 rfl ?_
      refine r_iadd (μ := mL_law) (pc := 1008) dL_law_1008 ?_
      refine r_script (μ := mL_law) (pc := 1009) rfl dL_law_1009 hx995 ?_
      refine r_aload_n (μ := mL_law) (pc := 1010) dL_law_1010 rfl rfl ?_
      refine r_iload_n (μ := mL_law) (pc := 1011) dL_law_1011 rfl rfl ?_
      refine r_iconst (μ := mL_law) (pc := 1012) (v := nI 2) dL_law_1012 rfl ?_
      refine r_iadd (μ := mL_law) (pc := 1013) dL_law_1013 ?_
      refine r_script (μ := mL_law) (pc := 1014) rfl dL_law_1014 hx1000 ?_
      refine r_callV (μ := mL_law) (pc := 1015) (as := [.int (gX G n995), .int (gX G n1000)]) 5 cL_133 dL_law_1015 rfl rfl (Nat.le_of_ble_eq_true rfl) rfl okX5_way (Nat.lt_succ_self d) (cat8 (n := 1) rfl (by decide)) rfl h (k_I (fun r1015 T1015 h => ?_))
      refine r_icmp_eq (μ := mL_law) (pc := 1018) (tgt := 1315) dL_law_1018 (by decide) ⟨fun q1018 => ?_, fun q1018 => ?_⟩
      · have h := h.1 q1018
        refine r_iinc (μ := mL_law) (pc := 1315) (y := nI 6) (ls' := [some (.ref 201), some (.ref 0), some (.ref 7), some (.int (i3 + (nI 6)))]) dL_law_1315 rfl rfl (Nat.le_of_ble_eq_true rfl) rfl rfl ?_
        refine r_goto (μ := mL_law) (pc := 1318) (tgt := 18) dL_law_1318 (by decide) ?_
        exact h
      · have h := h.2 q1018
        refine r_iconst (μ := mL_law) (pc := 1021) (v := nI 0) dL_law_1021 rfl ?_
        exact r_zret (μ := mL_law) (pc := 1022) dL_law_1022 rfl rfl h
    have h := h.2 q33
    refine ⟨fun q33 => ?_, fun q33 => ?_⟩
    · have h := h.1 q33
      refine r_aload_n (μ := mL_law) (pc := 1023) dL_law_1023 rfl rfl ?_
      refine r_aload_n (μ := mL_law) (pc := 1024) dL_law_1024 rfl rfl ?_
      refine r_iload_n (μ := mL_law) (pc := 1025) dL_law_1025 rfl rfl ?_
      refine r_iconst (μ := mL_law) (pc := 1026) (v := nI 1) dL_law_1026 rfl ?_
      refine r_iadd (μ := mL_law) (pc := 1027) dL_law_1027 ?_
      obtain ⟨n1028, hx1028, h⟩ := h
      refine r_script (μ := mL_law) (pc := 1028) rfl dL_law_1028 hx1028 ?_
      refine r_callV (μ := mL_law) (pc := 1029) (as := [.int (gX G n1028)]) 4 cL_134 dL_law_1029 rfl rfl (Nat.le_of_ble_eq_true rfl) rfl okX4_far (Nat.lt_succ_self d) (cat8 (n := 0) rfl (by decide)) rfl h (k_I (fun r1029 T1029 h => ?_))
      refine r_aload_n (μ := mL_law) (pc := 1032) dL_law_1032 rfl rfl ?_
      refine r_aload_n (μ := mL_law) (pc := 1033) dL_law_1033 rfl rfl ?_
      refine r_iload_n (μ := mL_law) (pc := 1034) dL_law_1034 rfl rfl ?_
      refine r_iconst (μ := mL_law) (pc := 1035) (v := nI 1) dL_law_1035 rfl ?_
      refine r_iadd (μ := mL_law) (pc := 1036) dL_law_1036 ?_
      refine r_script (μ := mL_law) (pc := 1037) rfl dL_law_1037 hx1028 ?_
      refine r_callV (μ := mL_law) (pc := 1038) (as := [.int (gX G n1028)]) 5 cL_137 dL_law_1038 rfl rfl (Nat.le_of_ble_eq_true rfl) rfl okX5_far (Nat.lt_succ_self d) (cat8 (n := 1) rfl (by decide)) rfl h (k_I (fun r1038 T1038 h => ?_))
      refine r_icmp_eq (μ := mL_law) (pc := 1041) (tgt := 1315) dL_law_1041 (by decide) ⟨fun q1041 => ?_, fun q1041 => ?_⟩
      · have h := h.1 q1041
        refine r_iinc (μ := mL_law) (pc := 1315) (y := nI 6) (ls' := [some (.ref 201), some (.ref 0), some (.ref 7), some (.int (i3 + (nI 6)))]) dL_law_1315 rfl rfl (Nat.le_of_ble_eq_true rfl) rfl rfl ?_
        refine r_goto (μ := mL_law) (pc := 1318) (tgt := 18) dL_law_1318 (by decide) ?_
        exact h
      · have h := h.2 q1041
        refine r_iconst (μ := mL_law) (pc := 1044) (v := nI 0) dL_law_1044 rfl ?_
        exact r_zret (μ := mL_law) (pc := 1045) dL_law_1045 rfl rfl h
    have h := h.2 q33
    refine ⟨fun q33 => ?_, fun q33 => ?_⟩
    · have h := h.1 q33
      refine r_aload_n (μ := mL_law) (pc := 1046) dL_law_1046 rfl rfl ?_
      refine r_aload_n (μ := mL_law) (pc := 1047) dL_law_1047 rfl rfl ?_
      refine r_iload_n (μ := mL_law) (pc := 1048) dL_law_1048 rfl rfl ?_
      refine r_iconst (μ := mL_law) (pc := 1049) (v := nI 1) dL_law_1049 rfl ?_
      refine r_iadd (μ := mL_law) (pc := 1050) dL_law_1050 ?_
      obtain ⟨n1051, hx1051, h⟩ := h
      refine r_script (μ := mL_law) (pc := 1051) rfl dL_law_1051 hx1051 ?_
      refine r_aload_n (μ := mL_law) (pc := 1052) dL_law_1052 rfl rfl ?_
      refine r_iload_n (μ := mL_law) (pc := 1053) dL_law_1053 rfl rfl ?_
      refine r_iconst (μ := mL_law) (pc := 1054) (v := nI 2) dL_law_1054 rfl ?_
      refine r_iadd (μ := mL_law) (pc := 1055) dL_law_1055 ?_
      obtain ⟨n1056, hx1056, h⟩ := h
      refine r_script (μ := mL_law) (pc := 1056) rfl dL_law_1056 hx1056 ?_
      refine r_callV (μ := mL_law) (pc := 1057) (as := [.int (gX G n1051), .int (gX G n1056)]) 4 cL_138 dL_law_1057 rfl rfl (Nat.le_of_ble_eq_true rfl) rfl okX4_kinds (Nat.lt_succ_self d) (cat8 (n := 0) rfl (by decide)) rfl h (k_I (fun r1057 T1057 h => ?_))
      refine r_aload_n (μ := mL_law) (pc := 1060) dL_law_1060 rfl rfl ?_
      refine r_aload_n (μ := mL_law) (pc := 1061) dL_law_1061 rfl rfl ?_
      refine r_iload_n (μ := mL_law) (pc := 1062) dL_law_1062 rfl rfl ?_
      refine r_iconst (μ := mL_law) (pc := 1063) (v := nI 1) dL_law_1063 rfl ?_
      refine r_iadd (μ := mL_law) (pc := 1064) dL_law_1064 ?_
      refine r_script (μ := mL_law) (pc := 1065) rfl dL_law_1065 hx1051 ?_
      refine r_aload_n (μ := mL_law) (pc := 1066) dL_law_1066 rfl rfl ?_
      refine r_iload_n (μ := mL_law) (pc := 1067) dL_law_1067 rfl rfl ?_
      refine r_iconst (μ := mL_law) (pc := 1068) (v := nI 2) dL_law_1068 rfl ?_
      refine r_iadd (μ := mL_law) (pc := 1069) dL_law_1069 ?_
      refine r_script (μ := mL_law) (pc := 1070) rfl dL_law_1070 hx1056 ?_
      refine r_callV (μ := mL_law) (pc := 1071) (as := [.int (gX G n1051), .int (gX G n1056)]) 5 cL_141 dL_law_1071 rfl rfl (Nat.le_of_ble_eq_true rfl) rfl okX5_kinds (Nat.lt_succ_self d) (cat8 (n := 1) rfl (by decide)) rfl h (k_I (fun r1071 T1071 h => ?_))
      refine r_icmp_eq (μ := mL_law) (pc := 1074) (tgt := 1315) dL_law_1074 (by decide) ⟨fun q1074 => ?_, fun q1074 => ?_⟩
      · have h := h.1 q1074
        refine r_iinc (μ := mL_law) (pc := 1315) (y := nI 6) (ls' := [some (.ref 201), some (.ref 0), some (.ref 7), some (.int (i3 + (nI 6)))]) dL_law_1315 rfl rfl (Nat.le_of_ble_eq_true rfl) rfl rfl ?_
        refine r_goto (μ := mL_law) (pc := 1318) (tgt := 18) dL_law_1318 (by decide) ?_
        exact h
      · have h := h.2 q1074
        refine r_iconst (μ := mL_law) (pc := 1077) (v := nI 0) dL_law_1077 rfl ?_
        exact r_zret (μ := mL_law) (pc := 1078) dL_law_1078 rfl rfl h
    have h := h.2 q33
    refine ⟨fun q33 => ?_, fun q33 => ?_⟩
    · have h := h.1 q33
      refine r_aload_n (μ := mL_law) (pc := 1079) dL_law_1079 rfl rfl ?_
      refine r_aload_n (μ := mL_law) (pc := 1080) dL_law_1080 rfl rfl ?_
      refine r_iload_n (μ := mL_law) (pc := 1081) dL_law_1081 rfl rfl ?_
      refine r_iconst (μ := mL_law) (pc := 1082) (v := nI 1) dL_law_1082 rfl ?_
      refine r_iadd (μ := mL_law) (pc := 1083) dL_law_1083 ?_
      obtain ⟨n1084, hx1084, h⟩ := h
      refine r_script (μ := mL_law) (pc := 1084) rfl dL_law_1084 hx1084 ?_
      refine r_aload_n (μ := mL_law) (pc := 1085) dL_law_1085 rfl rfl ?_
      refine r_iload_n (μ := mL_law) (pc := 1086) dL_law_1086 rfl rfl ?_
      refine r_iconst (μ := mL_law) (pc := 1087) (v := nI 2) dL_law_1087 rfl ?_
      refine r_iadd (μ := mL_law) (pc := 1088) dL_law_1088 ?_
      obtain ⟨n1089, hx1089, h⟩ := h
      refine r_script (μ := mL_law) (pc := 1089) rfl dL_law_1089 hx1089 ?_
      refine r_callV (μ := mL_law) (pc := 1090) (as := [.int (gX G n1084), .int (gX G n1089)]) 4 cL_142 dL_law_1090 rfl rfl (Nat.le_of_ble_eq_true rfl) rfl okX4_spots (Nat.lt_succ_self d) (cat8 (n := 0) rfl (by decide)) rfl h (k_I (fun r1090 T1090 h => ?_))
      refine r_aload_n (μ := mL_law) (pc := 1093) dL_law_1093 rfl rfl ?_
      refine r_aload_n (μ := mL_law) (pc := 1094) dL_law_1094 rfl rfl ?_
      refine r_iload_n (μ := mL_law) (pc := 1095) dL_law_1095 rfl rfl ?_
      refine r_iconst (μ := mL_law) (pc := 1096) (v := nI 1) dL_law_1096 rfl ?_
      refine r_iadd (μ := mL_law) (pc := 1097) dL_law_1097 ?_
      refine r_script (μ := mL_law) (pc := 1098) rfl dL_law_1098 hx1084 ?_
      refine r_aload_n (μ := mL_law) (pc := 1099) dL_law_1099 rfl rfl ?_
      refine r_iload_n (μ := mL_law) (pc := 1100) dL_law_1100 rfl rfl ?_
      refine r_iconst (μ := mL_law) (pc := 1101) (v := nI 2) dL_law_1101 rfl ?_
      refine r_iadd (μ := mL_law) (pc := 1102) dL_law_1102 ?_
      refine r_script (μ := mL_law) (pc := 1103) rfl dL_law_1103 hx1089 ?_
      refine r_callV (μ := mL_law) (pc := 1104) (as := [.int (gX G n1084), .int (gX G n1089)]) 5 cL_145 dL_law_1104 rfl rfl (Nat.le_of_ble_eq_true rfl) rfl okX5_spots (Nat.lt_succ_self d) (cat8 (n := 1) rfl (by decide)) rfl h (k_I (fun r1104 T1104 h => ?_))
      refine r_icmp_eq (μ := mL_law) (pc := 1107) (tgt := 1315) dL_law_1107 (by decide) ⟨fun q1107 => ?_, fun q1107 => ?_⟩
      · have h := h.1 q1107
        refine r_iinc (μ := mL_law) (pc := 1315) (y := nI 6) (ls' := [some (.ref 201), some (.ref 0), some (.ref 7), some (.int (i3 + (nI 6)))]) dL_law_1315 rfl rfl (Nat.le_of_ble_eq_true rfl) rfl rfl ?_
        refine r_goto (μ := mL_law) (pc := 1318) (tgt := 18) dL_law_1318 (by decide) ?_
        exact h
      · have h := h.2 q1107
        refine r_iconst (μ := mL_law) (pc := 1110) (v := nI 0) dL_law_1110 rfl ?_
        exact r_zret (μ := mL_law) (pc := 1111) dL_law_1111 rfl rfl h
    have h := h.2 q33
    refine ⟨fun q33 => ?_, fun q33 => ?_⟩
    · have h := h.1 q33
      refine r_aload_n (μ := mL_law) (pc := 1112) dL_law_1112 rfl rfl ?_
      refine r_aload_n (μ := mL_law) (pc := 1113) dL_law_1113 rfl rfl ?_
      refine r_iload_n (μ := mL_law) (pc := 1114) dL_law_1114 rfl rfl ?_
      refine r_iconst (μ := mL_law) (pc := 1115) (v := nI 1) dL_law_1115 rfl ?_
      refine r_iadd (μ := mL_law) (pc := 1116) dL_law_1116 ?_
      obtain ⟨n1117, hx1117, h⟩ := h
      refine r_script (μ := mL_law) (pc := 1117) rfl dL_law_1117 hx1117 ?_
      refine r_aload_n (μ := mL_law) (pc := 1118) dL_law_1118 rfl rfl ?_
      refine r_iload_n (μ := mL_law) (pc := 1119) dL_law_1119 rfl rfl ?_
      refine r_iconst (μ := mL_law) (pc := 1120) (v := nI 2) dL_law_1120 rfl ?_
      refine r_iadd (μ := mL_law) (pc := 1121) dL_law_1121 ?_
      obtain ⟨n1122, hx1122, h⟩ := h
      refine r_script (μ := mL_law) (pc := 1122) rfl dL_law_1122 hx1122 ?_
      refine r_callV (μ := mL_law) (pc := 1123) (as := [.int (gX G n1117), .int (gX G n1122)]) 4 cL_146 dL_law_1123 rfl rfl (Nat.le_of_ble_eq_true rfl) rfl okX4_odds (Nat.lt_succ_self d) (cat8 (n := 0) rfl (by decide)) rfl h (k_I (fun r1123 T1123 h => ?_))
      refine r_aload_n (μ := mL_law) (pc := 1126) dL_law_1126 rfl rfl ?_
      refine r_aload_n (μ := mL_law) (pc := 1127) dL_law_1127 rfl rfl ?_
      refine r_iload_n (μ := mL_law) (pc := 1128) dL_law_1128 rfl rfl ?_
      refine r_iconst (μ := mL_law) (pc := 1129) (v := nI 1) dL_law_1129 rfl ?_
      refine r_iadd (μ := mL_law) (pc := 1130) dL_law_1130 ?_
      refine r_script (μ := mL_law) (pc := 1131) rfl dL_law_1131 hx1117 ?_
      refine r_aload_n (μ := mL_law) (pc := 1132) dL_law_1132 rfl rfl ?_
      refine r_iload_n (μ := mL_law) (pc := 1133) dL_law_1133 rfl rfl ?_
      refine r_iconst (μ := mL_law) (pc := 1134) (v := nI 2) dL_law_1134 rfl ?_
      refine r_iadd (μ := mL_law) (pc := 1135) dL_law_1135 ?_
      refine r_script (μ := mL_law) (pc := 1136) rfl dL_law_1136 hx1122 ?_
      refine r_callV (μ := mL_law) (pc := 1137) (as := [.int (gX G n1117), .int (gX G n1122)]) 5 cL_149 dL_law_1137 rfl rfl (Nat.le_of_ble_eq_true rfl) rfl okX5_odds (Nat.lt_succ_self d) (cat8 (n := 1) rfl (by decide)) rfl h (k_I (fun r1137 T1137 h => ?_))
      refine r_icmp_eq (μ := mL_law) (pc := 1140) (tgt := 1315) dL_law_1140 (by decide) ⟨fun q1140 => ?_, fun q1140 => ?_⟩
      · have h := h.1 q1140
        refine r_iinc (μ := mL_law) (pc := 1315) (y := nI 6) (ls' := [some (.ref 201), some (.ref 0), some (.ref 7), some (.int (i3 + (nI 6)))]) dL_law_1315 rfl rfl (Nat.le_of_ble_eq_true rfl) rfl rfl ?_
        refine r_goto (μ := mL_law) (pc := 1318) (tgt := 18) dL_law_1318 (by decide) ?_
        exact h
      · have h := h.2 q1140
        refine r_iconst (μ := mL_law) (pc := 1143) (v := nI 0) dL_law_1143 rfl ?_
        exact r_zret (μ := mL_law) (pc := 1144) dL_law_1144 rfl rfl h
    have h := h.2 q33
    refine ⟨fun q33 => ?_, fun q33 => ?_⟩
    · have h := h.1 q33
      refine r_aload_n (μ := mL_law) (pc := 1145) dL_law_1145 rfl rfl ?_
      refine r_aload_n (μ := mL_law) (pc := 1146) dL_law_1146 rfl rfl ?_
      refine r_iload_n (μ := mL_law) (pc := 1147) dL_law_1147 rfl rfl ?_
      refine r_iconst (μ := mL_law) (pc := 1148) (v := nI 1) dL_law_1148 rfl ?_
      refine r_iadd (μ := mL_law) (pc := 1149) dL_law_1149 ?_
      obtain ⟨n1150, hx1150, h⟩ := h
      refine r_script (μ := mL_law) (pc := 1150) rfl dL_law_1150 hx1150 ?_
      refine r_callV (μ := mL_law) (pc := 1151) (as := [.int (gX G n1150)]) 4 cL_150 dL_law_1151 rfl rfl (Nat.le_of_ble_eq_true rfl) rfl okX4_mid (Nat.lt_succ_self d) (cat8 (n := 0) rfl (by decide)) rfl h (k_I (fun r1151 T1151 h => ?_))
      refine r_aload_n (μ := mL_law) (pc := 1154) dL_law_1154 rfl rfl ?_
      refine r_aload_n (μ := mL_law) (pc := 1155) dL_law_1155 rfl rfl ?_
      refine r_iload_n (μ := mL_law) (pc := 1156) dL_law_1156 rfl rfl ?_
      refine r_iconst (μ := mL_law) (pc := 1157) (v := nI 1) dL_law_1157 rfl ?_
      refine r_iadd (μ := mL_law) (pc := 1158) dL_law_1158 ?_
      refine r_script (μ := mL_law) (pc := 1159) rfl dL_law_1159 hx1150 ?_
      refine r_callV (μ := mL_law) (pc := 1160) (as := [.int (gX G n1150)]) 5 cL_153 dL_law_1160 rfl rfl (Nat.le_of_ble_eq_true rfl) rfl okX5_mid (Nat.lt_succ_self d) (cat8 (n := 1) rfl (by decide)) rfl h (k_I (fun r1160 T1160 h => ?_))
      refine r_icmp_eq (μ := mL_law) (pc := 1163) (tgt := 1315) dL_law_1163 (by decide) ⟨fun q1163 => ?_, fun q1163 => ?_⟩
      · have h := h.1 q1163
        refine r_iinc (μ := mL_law) (pc := 1315) (y := nI 6) (ls' := [some (.ref 201), some (.ref 0), some (.ref 7), some (.int (i3 + (nI 6)))]) dL_law_1315 rfl rfl (Nat.le_of_ble_eq_true rfl) rfl rfl ?_
        refine r_goto (μ := mL_law) (pc := 1318) (tgt := 18) dL_law_1318 (by decide) ?_
        exact h
      · have h := h.2 q1163
        refine r_iconst (μ := mL_law) (pc := 1166) (v := nI 0) dL_law_1166 rfl ?_
        exact r_zret (μ := mL_law) (pc := 1167) dL_law_1167 rfl rfl h
    have h := h.2 q33
    refine ⟨fun q33 => ?_, fun q33 => ?_⟩
    · have h := h.1 q33
      refine r_aload_n (μ := mL_law) (pc := 1168) dL_law_1168 rfl rfl ?_
      refine r_aload_n (μ := mL_law) (pc := 1169) dL_law_1169 rfl rfl ?_
      refine r_iload_n (μ := mL_law) (pc := 1170) dL_law_1170 rfl rfl ?_
      refine r_iconst (μ := mL_law) (pc := 1171) (v := nI 1) dL_law_1171 rfl ?_
      refine r_iadd (μ := mL_law) (pc := 1172) dL_law_1172 ?_
      obtain ⟨n1173, hx1173, h⟩ := h
      refine r_script (μ := mL_law) (pc := 1173) rfl dL_law_1173 hx1173 ?_
      refine r_aload_n (μ := mL_law) (pc := 1174) dL_law_1174 rfl rfl ?_
      refine r_iload_n (μ := mL_law) (pc := 1175) dL_law_1175 rfl rfl ?_
      refine r_iconst (μ := mL_law) (pc := 1176) (v := nI 2) dL_law_1176 rfl ?_
      refine r_iadd (μ := mL_law) (pc := 1177) dL_law_1177 ?_
      obtain ⟨n1178, hx1178, h⟩ := h
      refine r_script (μ := mL_law) (pc := 1178) rfl dL_law_1178 hx1178 ?_
      refine r_callV (μ := mL_law) (pc := 1179) (as := [.int (gX G n1173), .int (gX G n1178)]) 4 cL_154 dL_law_1179 rfl rfl (Nat.le_of_ble_eq_true rfl) rfl okX4_lots (Nat.lt_succ_self d) (cat8 (n := 0) rfl (by decide)) rfl h (k_I (fun r1179 T1179 h => ?_))
      refine r_aload_n (μ := mL_law) (pc := 1182) dL_law_1182 rfl rfl ?_
      refine r_aload_n (μ := mL_law) (pc := 1183) dL_law_1183 rfl rfl ?_
      refine r_iload_n (μ := mL_law) (pc := 1184) dL_law_1184 rfl rfl ?_
      refine r_iconst (μ := mL_law) (pc := 1185) (v := nI 1) dL_law_1185 rfl ?_
      refine r_iadd (μ := mL_law) (pc := 1186) dL_law_1186 ?_
      refine r_script (μ := mL_law) (pc := 1187) rfl dL_law_1187 hx1173 ?_
      refine r_aload_n (μ := mL_law) (pc := 1188) dL_law_1188 rfl rfl ?_
      refine r_iload_n (μ := mL_law) (pc := 1189) dL_law_1189 rfl rfl ?_
      refine r_iconst (μ := mL_law) (pc := 1190) (v := nI 2) dL_law_1190 rfl ?_
      refine r_iadd (μ := mL_law) (pc := 1191) dL_law_1191 ?_
      refine r_script (μ := mL_law) (pc := 1192) rfl dL_law_1192 hx1178 ?_
      refine r_callV (μ := mL_law) (pc := 1193) (as := [.int (gX G n1173), .int (gX G n1178)]) 5 cL_157 dL_law_1193 rfl rfl (Nat.le_of_ble_eq_true rfl) rfl okX5_lots (Nat.lt_succ_self d) (cat8 (n := 1) rfl (by decide)) rfl h (k_I (fun r1193 T1193 h => ?_))
      refine r_icmp_eq (μ := mL_law) (pc := 1196) (tgt := 1315) dL_law_1196 (by decide) ⟨fun q1196 => ?_, fun q1196 => ?_⟩
      · have h := h.1 q1196
        refine r_iinc (μ := mL_law) (pc := 1315) (y := nI 6) (ls' := [some (.ref 201), some (.ref 0), some (.ref 7), some (.int (i3 + (nI 6)))]) dL_law_1315 rfl rfl (Nat.le_of_ble_eq_true rfl) rfl rfl ?_
        refine r_goto (μ := mL_law) (pc := 1318) (tgt := 18) dL_law_1318 (by decide) ?_
        exact h
      · have h := h.2 q1196
        refine r_iconst (μ := mL_law) (pc := 1199) (v := nI 0) dL_law_1199 rfl ?_
        exact r_zret (μ := mL_law) (pc := 1200) dL_law_1200 rfl rfl h
    have h := h.2 q33
    refine ⟨fun q33 => ?_, fun q33 => ?_⟩
    · have h := h.1 q33
      refine r_aload_n (μ := mL_law) (pc := 1201) dL_law_1201 rfl rfl ?_
      refine r_callV (μ := mL_law) (pc := 1202) (as := []) 4 cL_158 dL_law_1202 rfl rfl (Nat.le_of_ble_eq_true rfl) rfl okX4_asked (Nat.lt_succ_self d) (cat8 (n := 0) rfl (by decide)) rfl h (k_I (fun r1202 T1202 h => ?_))
      refine r_aload_n (μ := mL_law) (pc := 1205) dL_law_1205 rfl rfl ?_
      refine r_callV (μ := mL_law) (pc := 1206) (as := []) 5 cL_161 dL_law_1206 rfl rfl (Nat.le_of_ble_eq_true rfl) rfl okX5_asked (Nat.lt_succ_self d) (cat8 (n := 1) rfl (by decide)) rfl h (k_I (fun r1206 T1206 h => ?_))
      refine r_icmp_eq (μ := mL_law) (pc := 1209) (tgt := 1315) dL_law_1209 (by decide) ⟨fun q1209 => ?_, fun q1209 => ?_⟩
      · have h := h.1 q1209
        refine r_iinc (μ := mL_law) (pc := 1315) (y := nI 6) (ls' := [some (.ref 201), some (.ref 0), some (.ref 7), some (.int (i3 + (nI 6)))]) dL_law_1315 rfl rfl (Nat.le_of_ble_eq_true rfl) rfl rfl ?_
        refine r_goto (μ := mL_law) (pc := 1318) (tgt := 18) dL_law_1318 (by decide) ?_
        exact h
      · have h := h.2 q1209
        refine r_iconst (μ := mL_law) (pc := 1212) (v := nI 0) dL_law_1212 rfl ?_
        exact r_zret (μ := mL_law) (pc := 1213) dL_law_1213 rfl rfl h
    have h := h.2 q33
    refine ⟨fun q33 => ?_, fun q33 => ?_⟩
    · have h := h.1 q33
      refine r_aload_n (μ := mL_law) (pc := 1214) dL_law_1214 rfl rfl ?_
      refine r_callV (μ := mL_law) (pc := 1215) (as := []) 4 cL_162 dL_law_1215 rfl rfl (Nat.le_of_ble_eq_true rfl) rfl okX4_upper (Nat.lt_succ_self d) (cat8 (n := 0) rfl (by decide)) rfl h (k_L (fun r1215 T1215 h => ?_))
      refine r_aload_n (μ := mL_law) (pc := 1218) dL_law_1218 rfl rfl ?_
      refine r_callV (μ := mL_law) (pc := 1219) (as := []) 5 cL_166 dL_law_1219 rfl rfl (Nat.le_of_ble_eq_true rfl) rfl okX5_upper (Nat.lt_succ_self d) (cat8 (n := 2) rfl (by decide)) rfl h (k_L (fun r1219 T1219 h => ?_))
      refine r_lcmp (μ := mL_law) (pc := 1222) dL_law_1222 ?_
      refine r_if_eq (μ := mL_law) (pc := 1223) (tgt := 1315) dL_law_1223 (by decide) ⟨fun q1223 => ?_, fun q1223 => ?_⟩
      · have h := h.1 q1223
        refine r_iinc (μ := mL_law) (pc := 1315) (y := nI 6) (ls' := [some (.ref 201), some (.ref 0), some (.ref 7), some (.int (i3 + (nI 6)))]) dL_law_1315 rfl rfl (Nat.le_of_ble_eq_true rfl) rfl rfl ?_
        refine r_goto (μ := mL_law) (pc := 1318) (tgt := 18) dL_law_1318 (by decide) ?_
        exact h
      · have h := h.2 q1223
        refine r_iconst (μ := mL_law) (pc := 1226) (v := nI 0) dL_law_1226 rfl ?_
        exact r_zret (μ := mL_law) (pc := 1227) dL_law_1227 rfl rfl h
    have h := h.2 q33
    refine ⟨fun q33 => ?_, fun q33 => ?_⟩
    · have h := h.1 q33
      refine r_aload_n (μ := mL_law) (pc := 1228) dL_law_1228 rfl rfl ?_
      refine r_callV (μ := mL_law) (pc := 1229) (as := []) 4 cL_167 dL_law_1229 rfl rfl (Nat.le_of_ble_eq_true rfl) rfl okX4_lower (Nat.lt_succ_self d) (cat8 (n := 0) rfl (by decide)) rfl h (k_L (fun r1229 T1229 h => ?_))
      refine r_aload_n (μ := mL_law) (pc := 1232) dL_law_1232 rfl rfl ?_
      refine r_callV (μ := mL_law) (pc := 1233) (as := []) 5 cL_170 dL_law_1233 rfl rfl (Nat.le_of_ble_eq_true rfl) rfl okX5_lower (Nat.lt_succ_self d) (cat8 (n := 2) rfl (by decide)) rfl h (k_L (fun r1233 T1233 h => ?_))
      refine r_lcmp (μ := mL_law) (pc := 1236) dL_law_1236 ?_
      refine r_if_eq (μ := mL_law) (pc := 1237) (tgt := 1315) dL_law_1237 (by decide) ⟨fun q1237 => ?_, fun q1237 => ?_⟩
      · have h := h.1 q1237
        refine r_iinc (μ := mL_law) (pc := 1315) (y := nI 6) (ls' := [some (.ref 201), some (.ref 0), some (.ref 7), some (.int (i3 + (nI 6)))]) dL_law_1315 rfl rfl (Nat.le_of_ble_eq_true rfl) rfl rfl ?_
        refine r_goto (μ := mL_law) (pc := 1318) (tgt := 18) dL_law_1318 (by decide) ?_
        exact h
      · have h := h.2 q1237
        refine r_iconst (μ := mL_law) (pc := 1240) (v := nI 0) dL_law_1240 rfl ?_
        exact r_zret (μ := mL_law) (pc := 1241) dL_law_1241 rfl rfl h
    have h := h.2 q33
    refine ⟨fun q33 => ?_, fun q33 => ?_⟩
    · have h := h.1 q33
      refine r_aload_n (μ := mL_law) (pc := 1242) dL_law_1242 rfl rfl ?_
      refine r_aload_n (μ := mL_law) (pc := 1243) dL_law_1243 rfl rfl ?_
      refine r_iload_n (μ := mL_law) (pc := 1244) dL_law_1244 rfl rfl ?_
      refine r_iconst (μ := mL_law) (pc := 1245) (v := nI 1) dL_law_1245 rfl ?_
      refine r_iadd (μ := mL_law) (pc := 1246) dL_law_1246 ?_
      obtain ⟨n1247, hx1247, h⟩ := h
      refine r_script (μ := mL_law) (pc := 1247) rfl dL_law_1247 hx1247 ?_
      refine r_callV (μ := mL_law) (pc := 1248) (as := [.int (gX G n1247)]) 4 cL_171 dL_law_1248 rfl rfl (Nat.le_of_ble_eq_true rfl) rfl okX4_count (Nat.lt_succ_self d) (cat8 (n := 0) rfl (by decide)) rfl h (k_I (fun r1248 T1248 h => ?_))
      refine r_aload_n (μ := mL_law) (pc := 1251) dL_law_1251 rfl rfl ?_
      refine r_aload_n (μ := mL_law) (pc := 1252) dL_law_1252 rfl rfl ?_
      refine r_iload_n (μ := mL_law) (pc := 1253) dL_law_1253 rfl rfl ?_
      refine r_iconst (μ := mL_law) (pc := 1254) (v := nI 1) dL_law_1254 rfl ?_
      refine r_iadd (μ := mL_law) (pc := 1255) dL_law_1255 ?_
      refine r_script (μ := mL_law) (pc := 1256) rfl dL_law_1256 hx1247 ?_
      refine r_callV (μ := mL_law) (pc := 1257) (as := [.int (gX G n1247)]) 5 cL_174 dL_law_1257 rfl rfl (Nat.le_of_ble_eq_true rfl) rfl okX5_count (Nat.lt_succ_self d) (cat8 (n := 1) rfl (by decide)) rfl h (k_I (fun r1257 T1257 h => ?_))
      refine r_icmp_eq (μ := mL_law) (pc := 1260) (tgt := 1315) dL_law_1260 (by decide) ⟨fun q1260 => ?_, fun q1260 => ?_⟩
      · have h := h.1 q1260
        refine r_iinc (μ := mL_law) (pc := 1315) (y := nI 6) (ls' := [some (.ref 201), some (.ref 0), some (.ref 7), some (.int (i3 + (nI 6)))]) dL_law_1315 rfl rfl (Nat.le_of_ble_eq_true rfl) rfl rfl ?_
        refine r_goto (μ := mL_law) (pc := 1318) (tgt := 18) dL_law_1318 (by decide) ?_
        exact h
      · have h := h.2 q1260
        refine r_iconst (μ := mL_law) (pc := 1263) (v := nI 0) dL_law_1263 rfl ?_
        exact r_zret (μ := mL_law) (pc := 1264) dL_law_1264 rfl rfl h
    have h := h.2 q33
    refine ⟨fun q33 => ?_, fun q33 => ?_⟩
    · have h := h.1 q33
      refine r_aload_n (μ := mL_law) (pc := 1265) dL_law_1265 rfl rfl ?_
      refine r_callV (μ := mL_law) (pc := 1266) (as := []) 4 cL_175 dL_law_1266 rfl rfl (Nat.le_of_ble_eq_true rfl) rfl okX4_finding (Nat.lt_succ_self d) (cat8 (n := 0) rfl (by decide)) rfl h (k_I (fun r1266 T1266 h => ?_))
      refine r_aload_n (μ := mL_law) (pc := 1269) dL_law_1269 rfl rfl ?_
      refine r_callV (μ := mL_law) (pc := 1270) (as := []) 5 cL_178 dL_law_1270 rfl rfl (Nat.le_of_ble_eq_true rfl) rfl okX5_finding (Nat.lt_succ_self d) (cat8 (n := 1) rfl (by decide)) rfl h (k_I (fun r1270 T1270 h => ?_))
      refine r_icmp_eq (μ := mL_law) (pc := 1273) (tgt := 1315) dL_law_1273 (by decide) ⟨fun q1273 => ?_, fun q1273 => ?_⟩
      · have h := h.1 q1273
        refine r_iinc (μ := mL_law) (pc := 1315) (y := nI 6) (ls' := [some (.ref 201), some (.ref 0), some (.ref 7), some (.int (i3 + (nI 6)))]) dL_law_1315 rfl rfl (Nat.le_of_ble_eq_true rfl) rfl rfl ?_
        refine r_goto (μ := mL_law) (pc := 1318) (tgt := 18) dL_law_1318 (by decide) ?_
        exact h
      · have h := h.2 q1273
        refine r_iconst (μ := mL_law) (pc := 1276) (v := nI 0) dL_law_1276 rfl ?_
        exact r_zret (μ := mL_law) (pc := 1277) dL_law_1277 rfl rfl h
    have h := h.2 q33
    refine ⟨fun q33 => ?_, fun q33 => ?_⟩
    · have h := h.1 q33
      refine r_aload_n (μ := mL_law) (pc := 1278) dL_law_1278 rfl rfl ?_
      refine r_aload_n (μ := mL_law) (pc := 1279) dL_law_1279 rfl rfl ?_
      refine r_iload_n (μ := mL_law) (pc := 1280) dL_law_1280 rfl rfl ?_
      refine r_iconst (μ := mL_law) (pc := 1281) (v := nI 1) dL_law_1281 rfl ?_
      refine r_iadd (μ := mL_law) (pc := 1282) dL_law_1282 ?_
      obtain ⟨n1283, hx1283, h⟩ := h
      refine r_script (μ := mL_law) (pc := 1283) rfl dL_law_1283 hx1283 ?_
      refine r_callV (μ := mL_law) (pc := 1284) (as := [.int (gX G n1283)]) 4 cL_179 dL_law_1284 rfl rfl (Nat.le_of_ble_eq_true rfl) rfl okX4_findings (Nat.lt_succ_self d) (cat8 (n := 0) rfl (by decide)) rfl h (k_I (fun r1284 T1284 h => ?_))
      refine r_aload_n (μ := mL_law) (pc := 1287) dL_law_1287 rfl rfl ?_
      refine r_aload_n (μ := mL_law) (pc := 1288) dL_law_1288 rfl rfl ?_
      refine r_iload_n (μ := mL_law) (pc := 1289) dL_law_1289 rfl rfl ?_
      refine r_iconst (μ := mL_law) (pc := 1290) (v := nI 1) dL_law_1290 rfl ?_
      refine r_iadd (μ := mL_law) (pc := 1291) dL_law_1291 ?_
      refine r_script (μ := mL_law) (pc := 1292) rfl dL_law_1292 hx1283 ?_
      refine r_callV (μ := mL_law) (pc := 1293) (as := [.int (gX G n1283)]) 5 cL_182 dL_law_1293 rfl rfl (Nat.le_of_ble_eq_true rfl) rfl okX5_findings (Nat.lt_succ_self d) (cat8 (n := 1) rfl (by decide)) rfl h (k_I (fun r1293 T1293 h => ?_))
      refine r_icmp_eq (μ := mL_law) (pc := 1296) (tgt := 1315) dL_law_1296 (by decide) ⟨fun q1296 => ?_, fun q1296 => ?_⟩
      · have h := h.1 q1296
        refine r_iinc (μ := mL_law) (pc := 1315) (y := nI 6) (ls' := [some (.ref 201), some (.ref 0), some (.ref 7), some (.int (i3 + (nI 6)))]) dL_law_1315 rfl rfl (Nat.le_of_ble_eq_true rfl) rfl rfl ?_
        refine r_goto (μ := mL_law) (pc := 1318) (tgt := 18) dL_law_1318 (by decide) ?_
        exact h
      · have h := h.2 q1296
        refine r_iconst (μ := mL_law) (pc := 1299) (v := nI 0) dL_law_1299 rfl ?_
        exact r_zret (μ := mL_law) (pc := 1300) dL_law_1300 rfl rfl h
    have h := h.2 q33
    refine ⟨fun q33 => ?_, fun q33 => ?_⟩
    · have h := h.1 q33
      refine r_aload_n (μ := mL_law) (pc := 1301) dL_law_1301 rfl rfl ?_
      refine r_callV (μ := mL_law) (pc := 1302) (as := []) 4 cL_183 dL_law_1302 rfl rfl (Nat.le_of_ble_eq_true rfl) rfl okX4_digest (Nat.lt_succ_self d) (cat8 (n := 0) rfl (by decide)) rfl h (k_L (fun r1302 T1302 h => ?_))
      refine r_aload_n (μ := mL_law) (pc := 1305) dL_law_1305 rfl rfl ?_
      refine r_callV (μ := mL_law) (pc := 1306) (as := []) 5 cL_186 dL_law_1306 rfl rfl (Nat.le_of_ble_eq_true rfl) rfl okX5_digest (Nat.lt_succ_self d) (cat8 (n := 2) rfl (by decide)) rfl h (k_L (fun r1306 T1306 h => ?_))
      refine r_lcmp (μ := mL_law) (pc := 1309) dL_law_1309 ?_
      refine r_if_eq (μ := mL_law) (pc := 1310) (tgt := 1315) dL_law_1310 (by decide) ⟨fun q1310 => ?_, fun q1310 => ?_⟩
      · have h := h.1 q1310
        refine r_iinc (μ := mL_law) (pc := 1315) (y := nI 6) (ls' := [some (.ref 201), some (.ref 0), some (.ref 7), some (.int (i3 + (nI 6)))]) dL_law_1315 rfl rfl (Nat.le_of_ble_eq_true rfl) rfl rfl ?_
        refine r_goto (μ := mL_law) (pc := 1318) (tgt := 18) dL_law_1318 (by decide) ?_
        exact h
      · have h := h.2 q1310
        refine r_iconst (μ := mL_law) (pc := 1313) (v := nI 0) dL_law_1313 rfl ?_
        exact r_zret (μ := mL_law) (pc := 1314) dL_law_1314 rfl rfl h
    have h := h.2 q33
    refine r_iinc (μ := mL_law) (pc := 1315) (y := nI 6) (ls' := [some (.ref 201), some (.ref 0), some (.ref 7), some (.int (i3 + (nI 6)))]) dL_law_1315 rfl rfl (Nat.le_of_ble_eq_true rfl) rfl rfl ?_
    refine r_goto (μ := mL_law) (pc := 1318) (tgt := 18) dL_law_1318 (by decide) ?_
    exact h

